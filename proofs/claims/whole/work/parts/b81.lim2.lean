/-! a unit gets a limit -/
theorem ST.lim {c c' : cd_S} {m m' : md_S} {O : List Nat} {mc k kl u : Nat} (h : ST c m O mc k kl) (hu : u < mN m 35) (hnu : mN m 64 < u) (fc : cd_fr [98, 99, 107, 160, 161, 162, 163, 289, 296, 327, 328, 329, 330] [] c c') (fm : md_fr [6, 7, 8, 9, 10, 11, 12, 13, 14, 15, 17, 18, 19, 22, 23, 24, 36, 42] m m') (o289 : ∀ i, i ≠ u → cI c' 289 i = cI c 289 i) (o296 : ∀ i, i ≠ u → cI c' 296 i = cI c 296 i) (o36 : ∀ i, i ≠ u → mA m' 36 i = mA m 36 i) (o42 : ∀ i, i ≠ u → mA m' 42 i = mA m 42 i) (h36 : mA m 36 u ≠ 0) (h364 : mA m 36 u ≠ 4) (x289 : cI c' 289 u = nI 3) (x36 : mA m' 36 u = nI 3) (x296 : cI c' 296 u = mA m' 42 u) (x42 : ∃ a, a < mN m' 22 ∧ mA m' 42 u = nI a) (x22 : mN m 22 ≤ mN m' 22) (hA : AGR c' m') (hP : ∃ g l, PolQ c' m' g g l) : ST c' m' O mc k kl ∧ (∀ v, kv m' v = kv m v) ∧ ∀ a x, x < u → (AN m' a x ↔ AN m a x) := by
  obtain ⟨q62, q35, q50, q65, c138, c66, -⟩ := h.nv
  have hnow := h.now
  have hanle := h.anle
  have hpar := ST.par h
  have hc : ∀ F : List Nat, (∀ f, f ∈ F → f ∉ [98, 99, 107, 160, 161, 162, 163, 289, 296, 327, 328, 329, 330] ∧ f ≠ 193) → CE F c c' := fun F hF => CE.of fc hF
  have hm : ∀ G : List Nat, (∀ f, f ∈ G → f ∉ [6, 7, 8, 9, 10, 11, 12, 13, 14, 15, 17, 18, 19, 22, 23, 24, 36, 42]) → ME G m m' := fun G hG => ME.of fm hG
  have o : ∀ q, q ∉ [6, 7, 8, 9, 10, 11, 12, 13, 14, 15, 17, 18, 19, 22, 23, 24, 36, 42] → mN m' q = mN m q := fun q hq => mN_fr fm hq
  have o35 := o 35 (by decide)
  have o48 := o 48 (by decide)
  have o50 := o 50 (by decide)
  have o56 := o 56 (by decide)
  have o58 := o 58 (by decide)
  have o60 := o 60 (by decide)
  have o62 := o 62 (by decide)
  have o64 := o 64 (by decide)
  have o65 := o 65 (by decide)
  have A : ∀ f, f ∉ [6, 7, 8, 9, 10, 11, 12, 13, 14, 15, 17, 18, 19, 22, 23, 24, 36, 42] → ∀ i, mA m' f i = mA m f i := fun f hf i => md_frA fm hf i
  have n3 : ¬ nI 3 = 0 := by decide
  have hub : ∀ x, ub m' x = ub m x := fun x => by
    unfold ub aN
    rw [A 39 (by decide)]
    by_cases hx : x = u
    · rw [hx, x36, if_neg n3, if_neg h36]
    · rw [o36 x hx]
  have hkv : ∀ v, kv m' v = kv m v := fun v => by
    have e51 : aN m' 51 v = aN m 51 v := by rw [aN, aN, A 51 (by decide)]
    have e53 : aN m' 53 v = aN m 53 v := by rw [aN, aN, A 53 (by decide)]
    unfold kv vI
    rw [e51, e53, A 54 (by decide), hub]
  have hkp : KP m m' := ⟨fun v _ => hkv v, by omega, by omega, by omega, by omega, by omega, fun i => ⟨md_frA fm (by decide) i, md_frA fm (by decide) i⟩, CG.fr fm (by decide), ⟨⟨by rw [mN_fr fm (by decide)]; exact Nat.le_refl _, fun q _ => by
    by_cases hq : q = u
    · rw [hq]; unfold SP; rw [x36]; exact ⟨⟨fun y => absurd y (by decide), fun y => absurd y h364⟩, fun _ => Or.inr (Or.inl rfl)⟩
    · unfold SP; rw [o36 q hq]; exact ⟨Iff.rfl, id⟩⟩, fun a _ => md_frA fm (by decide) a⟩⟩
  have hAN : ∀ a x, x < u → (AN m' a x ↔ AN m a x) := fun a x hx => AN_gr (un := u) (fun i hi => o36 i (by omega)) (fun i hi => A 40 (by decide) i) (fun i hi h0 => by
    obtain ⟨-, -, -, -, -, -, -, -, -, -, z, -⟩ := h.ur i (by omega)
    rcases z with ⟨z, -⟩ | ⟨-, j, j1, j2, -⟩
    · exact absurd z h0
    · show aN m 40 i < u
      rw [aN_of j2 (by omega)]; omega) hx
  refine ⟨?_, hkv, hAN⟩
  obtain ⟨a1, ⟨b1, b2, b3, b4, b5⟩, ⟨d1, d2, d3, d4, d5, d6⟩, e, f, g, i1, i2, i3, i4, i5, i6, ⟨r, i7, i8, i9⟩, i10, i11⟩ := h
  have hLM : LM m' := fun q hq h3 => by
    by_cases hqu : q = u
    · rw [hqu]; exact x42
    · rw [o36 q hqu] at h3
      obtain ⟨a, y1, y2⟩ := i1.2.2.2.2.2 q (by omega) h3
      exact ⟨a, by omega, by rw [o42 q hqu]; exact y2⟩
  refine ⟨a1.to (hc _ (by decide)) (fun i _ => cd_frz fc (by simp)), ⟨?_, ?_, ?_, ?_, ?_⟩, ⟨?_, ?_, ?_, ?_, d5, ?_⟩, ?_, ?_, ?_, i1.to2 (hc _ (by decide)) (hm _ (by decide)) (by omega) hLM, i2.to (hc _ (by decide)) (hm _ (by decide)) (by omega), hA, hP, i5.to (hc _ (by decide)) (hm _ (by decide)) (by omega), ?_, ⟨r, ?_, ?_, ?_⟩, by omega, fun w hw => i11 w (by rw [o64, hAN _ _ hnu] at hw; exact hw)⟩
  · rw [cd_frI fc (by decide) (by decide), md_frI fm (by decide)]; exact b1
  · rw [cd_frI fc (by decide) (by decide), md_frI fm (by decide)]; exact b2
  · rw [cd_frI fc (by decide) (by decide), md_frI fm (by decide)]; exact b3
  · rw [cd_frP fc (by decide) (by decide), o64]; exact b4
  · rw [o64, md_frI fm (by decide)]; exact b5
  · rw [o65, md_frI fm (by decide)]; exact d1
  · omega
  · rw [o50, md_frI fm (by decide)]; exact d3
  · omega
  · intro i hi
    obtain ⟨l, l1, l2⟩ := d6 i (by omega)
    exact ⟨l, by rw [cd_frI fc (by decide) (by decide)]; exact l1, by omega⟩
  · intro i hi
    have I : ∀ f, f ∉ [98, 99, 107, 160, 161, 162, 163, 289, 296, 327, 328, 329, 330] → f ≠ 193 → cI c' f i = cI c f i := fun f h1 h2 => cd_frI fc h1 h2 i
    by_cases hiu : i = u
    · subst hiu
      obtain ⟨w1, w2, w3, w4, w5, w6, w7, w8, ⟨q0, z1, z2, z3⟩, ⟨q, q1, q2, q3, q4⟩, w11, ⟨d, dd1, dd2, dd3, dd4, dd5, dd6⟩⟩ := e i (by omega)
      refine ⟨by rw [x289, x36], ⟨3, by omega, x36⟩, by rw [I 290 (by decide) (by decide), A 37 (by decide)]; exact w3, by rw [A 37 (by decide)]; exact w4, by rw [I 292 (by decide) (by decide), A 38 (by decide)]; exact w5, by rw [I 294 (by decide) (by decide), A 39 (by decide)]; exact w6, by rw [A 39 (by decide)]; exact w7, x296, ⟨q0, by rw [A 46 (by decide)]; exact z1, by omega, by rw [I 298 (by decide) (by decide), hub]; exact z3⟩, ⟨q, q1, by rw [I 299 (by decide) (by decide)]; exact q2, by rw [A 44 (by decide)]; exact q3, fun x hx => ?_⟩, ?_, ⟨d, by rw [A 37 (by decide)]; exact dd1, dd2, by rw [I 291 (by decide) (by decide), cd_frA fc (by decide) (by decide)]; exact dd3, by rw [I 297 (by decide) (by decide)]; exact dd4, by rw [I 301 (by decide) (by decide)]; exact dd5, fun y => absurd y (by rw [x36]; decide)⟩⟩
      · obtain ⟨v, v1, v2, v3, v4⟩ := q4 x hx
        exact ⟨v, by omega, by rw [A 45 (by decide)]; exact v2, by rw [cd_frA fc (by decide) (by decide), hkv]; exact v3, by rw [aN, A 51 (by decide)]; exact v4⟩
      · rcases w11 with ⟨z, -⟩ | ⟨-, j, j1, j2, j3⟩
        · exact absurd z h36
        · exact Or.inr ⟨by rw [x36]; decide, j, j1, by rw [A 40 (by decide)]; exact j2, by rw [I 295 (by decide) (by decide)]; exact j3⟩
    · refine (e i (by omega)).pt (fun f hf => ?_) (cd_frJ fc (by decide) (by decide) i) (fun x => cd_frA fc (by decide) (by decide) i x) (fun d => cd_frA fc (by decide) (by decide) 0 d) (fun f hf => ?_) (md_frL fm (by decide) i) (fun x _ => A 45 (by decide) _) (fun v hv => ⟨hkv v, A 51 (by decide) v, A 53 (by decide) v, A 54 (by decide) v⟩) (by omega)
      · by_cases h8 : f = 289
        · rw [h8]; exact o289 i hiu
        · by_cases h9 : f = 296
          · rw [h9]; exact o296 i hiu
          · exact I f (by revert hf h8 h9; simp; omega) (by revert hf; simp; omega)
      · by_cases h8 : f = 36
        · rw [h8]; exact o36 i hiu
        · by_cases h9 : f = 42
          · rw [h9]; exact o42 i hiu
          · exact A f (by revert hf h8 h9; simp; omega) i
  · intro v hv
    have hv : v < mN m 50 := by omega
    obtain ⟨⟨w, u1, u2⟩, qq, r', t'⟩ := f v hv
    have ea : aN m' 51 v = aN m 51 v := by rw [aN, aN, A 51 (by decide)]
    have e53 : aN m' 53 v = aN m 53 v := by rw [aN, aN, A 53 (by decide)]
    have ei : vI m' v = vI m v := by unfold vI; rw [ea, e53, A 54 (by decide), hub]
    have e46 : ∀ x, aN m' 46 x = aN m 46 x := fun x => by unfold aN; rw [A 46 (by decide)]
    exact ⟨⟨w, by omega, by rw [A 51 (by decide)]; exact u2⟩, by rw [A 53 (by decide)]; exact qq, by rw [ei, ea, hub, e46]; exact r', fun v2 hv2 => by rw [hkv, hkv]; exact t' v2 hv2⟩
  · obtain ⟨s1, s2, s3⟩ := g
    refine ⟨by rw [o56, o64, md_frI fm (by decide), cd_frI fc (by decide) (by decide), A 37 (by decide)]; exact s1, fun i hi => ?_, fun w hw => ?_⟩
    · obtain ⟨v', v1, v2, v3, v4, v5⟩ := s2 i (by omega)
      exact ⟨v', by omega, by rw [A 57 (by decide)]; exact v2, by rw [cd_frL fc (by decide) (by decide), md_frL fm (by decide)]; exact v3, by rw [cd_frA fc (by decide) (by decide), hkv]; exact v4, by rw [o64, hAN _ _ hnu, aN, A 51 (by decide)]; exact v5⟩
    · rw [o64, hAN _ _ hnu] at hw
      obtain ⟨t1, t2⟩ := s3 w hw
      have e44 : aN m' 44 w = aN m 44 w := by rw [aN, aN, A 44 (by decide)]
      rw [e44]
      refine ⟨fun x hx => ?_, fun x y hx hy => ?_⟩
      · rw [A 45 (by decide)]
        rcases t1 x hx with ⟨r', r1, r2, r3⟩ | ⟨i, j1, j2⟩
        · have hrl := hanle r' r1
          exact Or.inl ⟨r', by rw [o64, hAN _ _ hnu]; exact r1, by rw [o36 r' (by omega)]; exact r2, by rw [A 55 (by decide)]; exact r3⟩
        · exact Or.inr ⟨i, by omega, by rw [A 57 (by decide)]; exact j2⟩
      · rw [A 45 (by decide), A 45 (by decide)]; exact t2 x y hx hy
  · intro i hi hiO
    exact (i6 i (by omega) hiO).to (rL_fr fc (by simp)) (cd_frI fc (by decide) (by decide) _) (A 41 (by decide) i) hkp q35 (by omega) (by omega) (fun r ns _ _ _ => TK.of (hm _ (by decide)) r ns) (clk (hm _ (by decide)))
  · rw [cd_frP fc (by decide) (by decide)]; exact i7
  · rw [o64, hAN _ _ hnu]; exact i8
  · have hrl := hanle r i8
    rw [o36 r (by omega)]; exact i9
theorem BN.lim {c c' c2 : cd_S} {m m' m2 : md_S} {O : List Nat} {mc k kl i u : Nat} {t x y : Int32} {lc0 l0 l1 : Nat} {ch : List Nat} {ess : List (List EN)} {ns : List Nat} {pre : List EN} (h : BN c c' m m' O mc k kl i t x y lc0 l0 l1 ch ess ns pre) (hu0 : mN m 35 ≤ u) (hs2 : ST c2 m2 O mc k kl) (hkv : ∀ v, kv m2 v = kv m' v) (fc : cd_fr [98, 99, 107, 160, 161, 162, 163, 289, 296, 327, 328, 329, 330] [] c' c2) (fm : md_fr [6, 7, 8, 9, 10, 11, 12, 13, 14, 15, 17, 18, 19, 22, 23, 24, 36, 42] m' m2) (o36 : ∀ i, i ≠ u → mA m2 36 i = mA m' 36 i) (x36 : mA m2 36 u = nI 3) (h364 : mA m' 36 u ≠ 4) (h7 : mI m2 7 = mI m' 7) : BN c c2 m m2 O mc k kl i t x y lc0 l0 l1 ch ess ns pre := by
  obtain ⟨a1, a2, a3, a4, a5, a6, a7, a8, a9, a10, a11, a12, a13⟩ := h
  obtain ⟨q62, q35, q50, q65, -⟩ := a1.nv
  have N : ∀ q, q ∉ [6, 7, 8, 9, 10, 11, 12, 13, 14, 15, 17, 18, 19, 22, 23, 24, 36, 42] → mN m2 q = mN m' q := fun q hq => mN_fr fm hq
  have A : ∀ f, f ∉ [6, 7, 8, 9, 10, 11, 12, 13, 14, 15, 17, 18, 19, 22, 23, 24, 36, 42] → ∀ i, mA m2 f i = mA m' f i := fun f hf i => md_frA fm hf i
  have hkp : KP m' m2 := ⟨fun v _ => hkv v, by rw [N 58 (by decide)]; exact Nat.le_refl _, by rw [N 50 (by decide)]; exact Nat.le_refl _, by rw [N 60 (by decide)]; exact Nat.le_refl _, by rw [N 35 (by decide)]; exact Nat.le_refl _, by rw [N 48 (by decide)]; exact Nat.le_refl _, fun i => ⟨md_frA fm (by decide) i, md_frA fm (by decide) i⟩, CG.fr fm (by decide), ⟨⟨by rw [mN_fr fm (by decide)]; exact Nat.le_refl _, fun q _ => by
    by_cases hq : q = u
    · rw [hq]; unfold SP; rw [x36]; exact ⟨⟨fun y => absurd y (by decide), fun y => absurd y h364⟩, fun _ => Or.inr (Or.inl rfl)⟩
    · unfold SP; rw [o36 q hq]; exact ⟨Iff.rfl, id⟩⟩, fun a _ => md_frA fm (by decide) a⟩⟩
  refine ⟨hs2, ?_, ?_, by rw [A 66 (by decide)]; exact a4, by rw [A 68 (by decide)]; exact a5, by rw [A 69 (by decide)]; exact a6, by rw [N 62 (by decide)]; exact a7, a8, a9, by rw [cd_frI fc (by decide) (by decide)]; exact a10, a11, by rw [rL_fr fc (by simp)]; exact a12, a13.fr fm (by decide) (by decide) (by decide)⟩
  · obtain ⟨⟨x1, x2⟩, b, d, e, f, g, i', j, l, o, p, q, r⟩ := a2
    refine ⟨⟨by rw [N 65 (by decide)]; exact x1, fun z hz => ?_⟩, b.tr hkp, fun z hz => ?_, fun v hv => ?_, by rw [md_frI fm (by decide)]; exact f, fun z hz => by rw [A 57 (by decide)]; exact g z hz, by rw [md_frI fm (by decide)]; exact i', by rw [md_frI fm (by decide)]; exact j, h7.trans l, by rw [cd_frI fc (by decide) (by decide)]; exact o, by rw [cd_frP fc (by decide) (by decide)]; exact p, fun z h1 h2 => ?_, by rw [N 62 (by decide)]; exact r⟩
    · obtain ⟨s1, s2, s3, s4, s5, s6⟩ := x2 z hz
      exact ⟨(A 66 (by decide) z).trans s1, (A 67 (by decide) z).trans s2, (A 68 (by decide) z).trans s3, (A 69 (by decide) z).trans s4, (A 70 (by decide) z).trans s5, ⟨(A 71 (by decide) z).trans s6.1, (A 72 (by decide) z).trans s6.2⟩⟩
    · rw [o36 z (by omega), A 37 (by decide), A 39 (by decide), A 40 (by decide), A 41 (by decide), A 55 (by decide), md_frL fm (by decide), cd_frJ fc (by decide) (by decide), A 46 (by decide), rL_fr fc (by simp), cd_frI fc (by decide) (by decide), A 44 (by decide)]
      obtain ⟨y1, y2, y3⟩ := d z hz
      exact ⟨y1, y2, fun hna => ⟨(y3 hna).1, fun w hw => by rw [A 45 (by decide)]; exact (y3 hna).2 w hw⟩⟩
    · rw [A 51 (by decide), md_frL fm (by decide), A 53 (by decide), A 54 (by decide)]; exact e v hv
    · by_cases hzu : z = u
      · rw [hzu, x36]; decide
      · rw [o36 z hzu]; exact q z h1 (by rw [N 35 (by decide)] at h2; exact h2)
  · exact a3.kp hkp q35 (by omega) (by rw [N 65 (by decide)]; exact Nat.le_refl _) (fun j _ => ⟨A 66 (by decide) j, A 67 (by decide) j, A 68 (by decide) j, A 69 (by decide) j, A 70 (by decide) j, ⟨A 71 (by decide) j, A 72 (by decide) j⟩⟩) (fun q _ _ => ⟨by rw [aN, aN, A 44 (by decide)], fun x _ => by rw [aN, aN, A 45 (by decide)]⟩)
