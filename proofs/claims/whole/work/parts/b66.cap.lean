/-! captured variables -/
theorem nd_len : ∀ (N : Nat) (l : List Nat), l.Nodup → (∀ y, y ∈ l → y < N) → l.length ≤ N := by
  intro N
  induction N with
  | zero =>
    intro l _ h
    cases l with
    | nil => simp
    | cons y l => exact absurd (h y (by simp)) (by omega)
  | succ N ih =>
    intro l hl h
    have h1 : (l.erase N).length ≤ N := ih _ (hl.erase N) (fun y hy => by
      have hy2 := (hl.mem_erase_iff).mp hy
      have := h y hy2.2
      have := hy2.1
      omega)
    by_cases hm : N ∈ l
    · rw [List.length_erase_of_mem hm] at h1; omega
    · rw [List.erase_of_not_mem hm] at h1; omega
theorem ph {M N : Nat} (g : Nat → Nat) (h : ∀ x, x < M → g x < N) (inj : ∀ x y, x < y → y < M → g x ≠ g y) : M ≤ N := by
  have := nd_len N ((List.range M).map g) (by
    refine List.pairwise_map.mpr ?_
    refine List.Pairwise.imp_of_mem ?_ List.pairwise_lt_range
    intro a b _ hb hab
    exact inj a b hab (List.mem_range.mp hb)) (fun y hy => by
    obtain ⟨x, hx, rfl⟩ := List.mem_map.mp hy
    exact h x (List.mem_range.mp hx))
  rw [List.length_map, List.length_range] at this
  exact this
theorem AN_root {m : md_S} {u r s : Nat} (hr : AN m r u) (hr0 : mA m 36 r = 0) (hs : AN m s u) (hs0 : mA m 36 s = 0) : r = s := by
  obtain ⟨k, k1, k2⟩ := hr
  obtain ⟨j, j1, j2⟩ := hs
  rcases Nat.lt_trichotomy k j with h | h | h
  · exact absurd hr0 (by rw [← k1]; exact j2 k h)
  · rw [← k1, ← j1, h]
  · exact absurd hs0 (by rw [← j1]; exact k2 j h)
theorem upn_succ {m : md_S} : ∀ (k x : Nat), upn m (k + 1) x = par m (upn m k x)
  | 0, _ => rfl
  | k + 1, x => upn_succ k (par m x)
theorem AN_par {m : md_S} {u x : Nat} (h : AN m u x) (h0 : mA m 36 u ≠ 0) : AN m (par m u) x := by
  obtain ⟨k, k1, k2⟩ := h
  refine ⟨k + 1, by rw [upn_succ, k1], fun j hj => ?_⟩
  by_cases hjk : j = k
  · rw [hjk, k1]; exact h0
  · exact k2 j (by omega)
/-- a unit captures one variable more -/
theorem ST.cap {c : cd_S} {m : md_S} {O : List Nat} {mc k kl u v q : Nat} (h : ST c m O mc k kl) (hu : AN m u (mN m 64)) (hv : v < mN m 50) (ho : aN m 51 v < u) (hsc : (∃ r, AN m r (mN m 64) ∧ mA m 36 r = 0 ∧ mA m 55 r = nI v) ∨ ∃ i, i < mN m 56 ∧ mA m 57 i = nI v) (hq : mA m 44 u = nI q) (hq13 : q ≤ 13) (hnew : ∀ x, x < q → mA m 45 (16 * u + x) ≠ nI v) : q < 13 ∧ ST (cSI (cSA c 300 u q (kv m v)) 299 u (nI (q + 1))) (mSA (mSA m 45 (16 * u + q) (nI v)) 44 u (nI (q + 1))) O mc k kl ∧ GR c (cSI (cSA c 300 u q (kv m v)) 299 u (nI (q + 1))) m (mSA (mSA m 45 (16 * u + q) (nI v)) 44 u (nI (q + 1))) := by
  obtain ⟨q62, q35, q50, -, -, c66, -, -, -, -, -, q56, -, -⟩ := h.nv
  have hnow := h.now
  have hanle := h.anle
  have hul := h.anle u hu
  have hur := h.ur
  have hu35 : u < mN m 35 := by omega
  have haN : aN m 44 u = q := aN_of hq (by omega)
  obtain ⟨sc1, sc2, sc3⟩ := h.sc
  have hlt : q < 13 := by
    obtain ⟨val, hval⟩ : ∃ f : Nat → Int32, f = fun x => if x < q then mA m 45 (16 * u + x) else nI v := ⟨_, rfl⟩
    have H : ∀ x, ∃ j, x < q + 1 → j < 13 ∧ ((j = 12 ∧ ∃ r, AN m r (mN m 64) ∧ mA m 36 r = 0 ∧ val x = mA m 55 r) ∨ (j < mN m 56 ∧ mA m 57 j = val x)) := by
      intro x
      by_cases hx : x < q + 1
      · by_cases hxq : x < q
        · have e : val x = mA m 45 (16 * u + x) := by rw [hval]; exact if_pos hxq
          rcases (sc3 u hu).1 x (by omega) with ⟨r, r1, r2, r3⟩ | ⟨i, i1, i2⟩
          · exact ⟨12, fun _ => ⟨by omega, Or.inl ⟨rfl, r, r1, r2, by rw [e]; exact r3⟩⟩⟩
          · exact ⟨i, fun _ => ⟨by omega, Or.inr ⟨i1, by rw [e]; exact i2⟩⟩⟩
        · have e : val x = nI v := by rw [hval]; exact if_neg hxq
          rcases hsc with ⟨r, r1, r2, r3⟩ | ⟨i, i1, i2⟩
          · exact ⟨12, fun _ => ⟨by omega, Or.inl ⟨rfl, r, r1, r2, by rw [e]; exact r3.symm⟩⟩⟩
          · exact ⟨i, fun _ => ⟨by omega, Or.inr ⟨i1, by rw [e]; exact i2⟩⟩⟩
      · exact ⟨0, fun y => absurd y hx⟩
    have g2 := fun x => Classical.choose_spec (H x)
    have hne : ∀ x y, x < y → y < q + 1 → val x ≠ val y := by
      intro x y hxy hy
      rw [hval]
      dsimp only
      rw [if_pos (show x < q by omega)]
      by_cases hyq : y < q
      · rw [if_pos hyq]
        exact (sc3 u hu).2 x y hxy (by omega)
      · rw [if_neg hyq]
        exact hnew x (by omega)
    have := ph (M := q + 1) (N := 13) (fun x => Classical.choose (H x)) (fun x hx => (g2 x hx).1) (fun x y hxy hy e => by
      obtain ⟨-, gx⟩ := g2 x (by omega)
      obtain ⟨-, gy⟩ := g2 y hy
      rw [e] at gx
      rcases gx with ⟨x1, r, r1, r2, r3⟩ | ⟨x1, x2⟩
      · rcases gy with ⟨y1, s, s1, s2, s3⟩ | ⟨y1, y2⟩
        · exact hne x y hxy hy (by rw [r3, s3, AN_root r1 r2 s1 s2])
        · omega
      · rcases gy with ⟨y1, s, s1, s2, s3⟩ | ⟨y1, y2⟩
        · omega
        · exact hne x y hxy hy (x2.symm.trans y2))
    omega
  obtain ⟨c', hc'⟩ : ∃ z, z = cSI (cSA c 300 u q (kv m v)) 299 u (nI (q + 1)) := ⟨_, rfl⟩
  obtain ⟨m', hm'⟩ : ∃ z, z = mSA (mSA m 45 (16 * u + q) (nI v)) 44 u (nI (q + 1)) := ⟨_, rfl⟩
  rw [← hc', ← hm']
  have fc : cd_fr [299, 300] [] c c' := by rw [hc']; exact cd_fr_SI (cd_fr_SA (cd_fr_refl _ _ _) (by decide) _ _ _) (by decide) (by decide) _ _
  have fm : md_fr [44, 45] m m' := by rw [hm']; exact md_fr_SA (md_fr_SA (md_fr_refl _ _) (by decide) _ _) (by decide) _ _
  have x1 : cI c' 299 u = nI (q + 1) := by rw [hc', cI_SIe]
  have x1o : ∀ i, i ≠ u → cI c' 299 i = cI c 299 i := fun i hi => by rw [hc', cI_SIi hi]; rfl
  have x2 : cAr c' 300 u q = kv m v := by rw [hc']; show cAr (cSA c 300 u q (kv m v)) 300 u q = _; exact cA_SAe
  have x2o : ∀ x, x ≠ q → cAr c' 300 u x = cAr c 300 u x := fun x hx => by rw [hc']; show cAr (cSA c 300 u q (kv m v)) 300 u x = _; exact cA_SAi hx
  have x2p : ∀ i x, i ≠ u → cAr c' 300 i x = cAr c 300 i x := fun i x hi => by rw [hc']; show cAr (cSA c 300 u q (kv m v)) 300 i x = _; rw [cA_SA, if_neg (fun z => hi z.2)]
  have y1 : mA m' 44 u = nI (q + 1) := by rw [hm', mA_SAe]
  have y1o : ∀ i, i ≠ u → mA m' 44 i = mA m 44 i := fun i hi => by rw [hm', mA_SAi hi, mA_SAo (by decide)]
  have y2 : mA m' 45 (16 * u + q) = nI v := by rw [hm', mA_SAo (by decide), mA_SAe]
  have y2o : ∀ x, x ≠ 16 * u + q → mA m' 45 x = mA m 45 x := fun x hx => by rw [hm', mA_SAo (by decide), mA_SAi hx]
  have hc : ∀ F : List Nat, (∀ f, f ∈ F → f ∉ [299, 300] ∧ f ≠ 193) → CE F c c' := fun F hF => CE.of fc hF
  have hm : ∀ G : List Nat, (∀ f, f ∈ G → f ∉ [44, 45]) → ME G m m' := fun G hG => ME.of fm hG
  have o : ∀ q, q ∉ [44, 45] → mN m' q = mN m q := fun q hq => mN_fr fm hq
  have o35 := o 35 (by decide)
  have o50 := o 50 (by decide)
  have o56 := o 56 (by decide)
  have o62 := o 62 (by decide)
  have o64 := o 64 (by decide)
  have o65 := o 65 (by decide)
  have I : ∀ f, f ∉ [299, 300] → f ≠ 193 → ∀ i, cI c' f i = cI c f i := fun f h1 h2 i => cd_frI fc h1 h2 i
  have k1 : cN c' 138 = cN c 138 := by rw [cN, cN, cd_frI fc (by decide) (by decide)]
  have k2 : cN c' 66 = cN c 66 := by rw [cN, cN, cd_frI fc (by decide) (by decide)]
  have A : ∀ f, f ∉ [44, 45] → ∀ i, mA m' f i = mA m f i := fun f hf i => md_frA fm hf i
  have hk : ∀ v, kv m' v = kv m v := kv_ME (hm _ (by decide))
  have hub : ∀ x, ub m' x = ub m x := fun x => by unfold ub aN; rw [A 36 (by decide), A 39 (by decide)]
  have hn : ∀ a u, AN m' a u ↔ AN m a u := AN_ME (hm _ (by decide))
  have hO : u ∈ O := by
    obtain ⟨-, -, -, -, -, -, -, -, -, -, -, -, -, -, z⟩ := h
    exact z u hu
  have hcap : ∀ q', q' < mN m 35 → aN m 44 q' ≤ 13 := by
    intro q' hq'
    obtain ⟨-, -, -, -, -, -, -, -, -, ⟨x, x1, x2, x3, x4⟩, -⟩ := hur q' hq'
    rw [aN_of x3 (by omega)]; exact x1
  have hcg : CG m m' := ⟨fun i hi => by
    by_cases hi6 : i = u
    · rw [hi6, aN_of y1 (by omega), haN]
      exact ⟨by omega, fun x hx => by rw [aN, aN, y2o _ (by omega)]⟩
    · exact ⟨by rw [aN, aN, y1o i hi6]; exact Nat.le_refl _, fun x hx => by rw [aN, aN, y2o _ (by have := hcap i hi; omega)]⟩, fun v _ => by rw [aN, aN, A 51 (by decide)]⟩
  have o58 := o 58 (by decide)
  have o60 := o 60 (by decide)
  have o48 := o 48 (by decide)
  have hkp : KP m m' := ⟨fun v _ => hk v, by omega, by omega, by omega, by omega, by omega, fun i => ⟨A 30 (by decide) i, A 31 (by decide) i⟩, hcg, ⟨⟨by rw [o 25 (by decide)]; exact Nat.le_refl _, fun u _ => by unfold SP; rw [A 36 (by decide)]; exact ⟨Iff.rfl, id⟩⟩, fun a _ => A 136 (by decide) a⟩⟩
  refine ⟨hlt, ?_, ?_⟩
  · obtain ⟨⟨z1, z2, z3, z4, z5, z6, z7, z8, z9⟩, ⟨b1, b2, b3, b4, b5⟩, ⟨d1, d2, d3, d4, d5, d6⟩, e, f, g, i1, i2, i3, ⟨gg, ll, i4⟩, i5, i6, ⟨r, i7, i8, i9⟩, i10, i11⟩ := h
    refine ⟨⟨?_, ?_, ?_, ?_, by rw [k1, k2, scS_ext (c := c) (c' := c') (fun i _ => by rw [rsz, rsz, cd_frz fc (by simp)])]; exact z5, trivial, ?_, ?_, ?_⟩, ⟨?_, ?_, ?_, ?_, ?_⟩, ⟨?_, ?_, ?_, ?_, d5, ?_⟩, ?_, ?_, ?_, i1.to (hc _ (by decide)) (hm _ (by decide)) (by omega), i2.to (hc _ (by decide)) (hm _ (by decide)) (by omega), i3.to (hc _ (by decide)) (hm _ (by decide)), ⟨gg, ll, i4.me (hc _ (by decide)) (hm _ (by decide))⟩, i5.to (hc _ (by decide)) (hm _ (by decide)) (by omega), ?_, ⟨r, ?_, ?_, ?_⟩, by omega, fun u hu => i11 u (by rw [o64, hn] at hu; exact hu)⟩
    · rw [k1, cd_frI fc (by decide) (by decide)]; exact z1
    · rw [k1]; exact z2
    · rw [k2, cd_frI fc (by decide) (by decide)]; exact z3
    · rw [k2]; exact z4
    · rw [k2, cd_frP fc (by decide) (by decide)]; exact z7
    · rw [k2, cd_frP fc (by decide) (by decide)]; exact z8
    · intro i hi
      rw [k2] at hi ⊢
      obtain ⟨t1, t2, t3, t4⟩ := z9 i hi
      rw [k1, I 295 (by decide) (by decide), I 288 (by decide) (by decide)]
      have : rsz c' (17 + 3 * i) = rsz c (17 + 3 * i) := by rw [rsz, rsz, cd_frz fc (by simp)]
      rw [this]
      refine ⟨t1, t2, ?_, t4⟩
      by_cases hi6 : i = u
      · rw [hi6]; exact ⟨q + 1, by omega, x1⟩
      · rw [x1o i hi6]; exact t3
    · rw [cd_frI fc (by decide) (by decide), md_frI fm (by decide)]; exact b1
    · rw [cd_frI fc (by decide) (by decide), md_frI fm (by decide)]; exact b2
    · rw [cd_frI fc (by decide) (by decide), md_frI fm (by decide)]; exact b3
    · rw [cd_frP fc (by decide) (by decide), o64]; exact b4
    · rw [o64, md_frI fm (by decide)]; exact b5
    · rw [o65, md_frI fm (by decide)]; exact d1
    · omega
    · rw [o50, md_frI fm (by decide)]; exact d3
    · omega
    · intro i hi
      obtain ⟨l, l1, l2⟩ := d6 i (by omega)
      exact ⟨l, by rw [cd_frI fc (by decide) (by decide)]; exact l1, by omega⟩
    · intro i hi
      obtain ⟨a1, a2, a3, a4, a5, a6, a7, a8, a9, ⟨qq, q1, q2, q3, q4⟩, a11, a12⟩ := e i (by omega)
      unfold UR
      rw [I 289 (by decide) (by decide), I 290 (by decide) (by decide), I 292 (by decide) (by decide), I 294 (by decide) (by decide), I 296 (by decide) (by decide), I 298 (by decide) (by decide), I 295 (by decide) (by decide), A 36 (by decide), A 37 (by decide), A 38 (by decide), A 39 (by decide), A 42 (by decide), A 46 (by decide), A 40 (by decide), A 55 (by decide), hub, o50]
      refine ⟨a1, a2, a3, a4, a5, a6, a7, a8, a9, ?_, ?_, ?_⟩
      · by_cases hi6 : i = u
        · subst hi6
          refine ⟨q + 1, by omega, x1, y1, fun x hx => ?_⟩
          by_cases hxq : x = q
          · rw [hxq]
            exact ⟨v, hv, y2, by rw [x2, hk], by rw [aN, A 51 (by decide)]; exact ho⟩
          · have hqq : qq = q := (nI_eq (by omega) (by omega)).mp (q3.symm.trans hq)
            obtain ⟨v', v1, v2, v3, v4⟩ := q4 x (by omega)
            exact ⟨v', v1, by rw [y2o _ (by omega)]; exact v2, by rw [x2o x hxq, hk]; exact v3, by rw [aN, A 51 (by decide)]; exact v4⟩
        · refine ⟨qq, q1, by rw [x1o i hi6]; exact q2, by rw [y1o i hi6]; exact q3, fun x hx => ?_⟩
          obtain ⟨v', v1, v2, v3, v4⟩ := q4 x hx
          exact ⟨v', v1, by rw [y2o _ (by omega)]; exact v2, by rw [x2p i x hi6, hk]; exact v3, by rw [aN, A 51 (by decide)]; exact v4⟩
      · rcases a11 with ⟨b1, b2, b3, v', v1, v2, v3, v4, v5⟩ | bb
        · exact Or.inl ⟨b1, b2, b3, v', v1, v2, by rw [A 51 (by decide)]; exact v3, by rw [A 53 (by decide)]; exact v4, by rw [A 54 (by decide)]; exact v5⟩
        · exact Or.inr bb
      · obtain ⟨d, d1, d2, d3, d4, d5, d6⟩ := a12
        exact ⟨d, d1, d2, by rw [cd_frI fc (by decide) (by decide), cd_frA fc (by decide) (by decide)]; exact d3, by rw [cd_frI fc (by decide) (by decide)]; exact d4, by rw [cd_frI fc (by decide) (by decide)]; exact d5, by rw [cd_frJ fc (by decide) (by decide), md_frL fm (by decide)]; exact d6⟩
    · exact fun v hv => (f v (by omega)).to (hm _ (by decide)) (by omega)
    · refine ⟨by rw [o56, o64, md_frI fm (by decide), cd_frI fc (by decide) (by decide), A 37 (by decide)]; exact sc1, fun i hi => ?_, fun u' hu' => ?_⟩
      · obtain ⟨v', v1, v2, v3, v4, v5⟩ := sc2 i (by omega)
        exact ⟨v', by omega, by rw [A 57 (by decide)]; exact v2, by rw [cd_frL fc (by decide) (by decide), md_frL fm (by decide)]; exact v3, by rw [cd_frA fc (by decide) (by decide), hk]; exact v4, by rw [hn, o64, aN, A 51 (by decide)]; exact v5⟩
      · rw [o64, hn] at hu'
        obtain ⟨t1, t2⟩ := sc3 u' hu'
        have hu'l := hanle u' hu'
        have hc13 := hcap u' (by omega)
        have one : ∀ x, x < aN m 44 u' → mA m' 45 (16 * u' + x) = mA m 45 (16 * u' + x) := fun x hx => y2o _ (fun z => by
          by_cases hz : u' = u
          · rw [hz] at hx z; omega
          · omega)
        by_cases hi6 : u' = u
        · subst hi6
          rw [aN_of y1 (by omega)]
          have hy : ∀ x, x < q + 1 → (x < q ∧ mA m' 45 (16 * u' + x) = mA m 45 (16 * u' + x)) ∨ (x = q ∧ mA m' 45 (16 * u' + x) = nI v) := by
            intro x hx
            by_cases hxq : x = q
            · exact Or.inr ⟨hxq, by rw [hxq]; exact y2⟩
            · exact Or.inl ⟨by omega, one x (by omega)⟩
          refine ⟨fun x hx => ?_, fun x y hxy hy' => ?_⟩
          · have key : ∀ z : Int32, ((∃ r, AN m r (mN m 64) ∧ mA m 36 r = 0 ∧ z = mA m 55 r) ∨ ∃ i, i < mN m 56 ∧ mA m 57 i = z) → ((∃ r, AN m' r (mN m' 64) ∧ mA m' 36 r = 0 ∧ z = mA m' 55 r) ∨ ∃ i, i < mN m' 56 ∧ mA m' 57 i = z) := by
              rintro z (⟨r, r1, r2, r3⟩ | ⟨i, j1, j2⟩)
              · exact Or.inl ⟨r, by rw [o64, hn]; exact r1, by rw [A 36 (by decide)]; exact r2, by rw [A 55 (by decide)]; exact r3⟩
              · exact Or.inr ⟨i, by omega, by rw [A 57 (by decide)]; exact j2⟩
            rcases hy x hx with ⟨hxq, e9⟩ | ⟨hxq, e9⟩
            · rw [e9]; exact key _ (t1 x (by omega))
            · rw [e9]
              refine key _ ?_
              rcases hsc with ⟨r, r1, r2, r3⟩ | hi
              · exact Or.inl ⟨r, r1, r2, r3.symm⟩
              · exact Or.inr hi
          · rcases hy y hy' with ⟨hyq, e9⟩ | ⟨hyq, e9⟩
            · rw [e9, one x (by omega)]
              exact t2 x y hxy (by omega)
            · rw [e9, one x (by omega)]
              exact hnew x (by omega)
        · have e44 : aN m' 44 u' = aN m 44 u' := by rw [aN, aN, y1o u' hi6]
          rw [e44]
          refine ⟨fun x hx => ?_, fun x y hx hy => ?_⟩
          · rw [one x hx]
            rcases t1 x hx with ⟨r, r1, r2, r3⟩ | ⟨i, j1, j2⟩
            · exact Or.inl ⟨r, by rw [o64, hn]; exact r1, by rw [A 36 (by decide)]; exact r2, by rw [A 55 (by decide)]; exact r3⟩
            · exact Or.inr ⟨i, by omega, by rw [A 57 (by decide)]; exact j2⟩
          · rw [one x (by omega), one y hy]; exact t2 x y hx hy
    · intro i hi hiO
      refine (i6 i (by omega) hiO).to (rL_fr fc (by simp)) (cd_frI fc (by decide) (by decide) _) (A 41 (by decide) i) hkp q35 (by omega) (by omega) (fun r ns n1 n2 n3 => ?_) (clk (ME.of fm (by decide)))
      refine ⟨fun j _ _ => ⟨A 66 (by decide) j, A 67 (by decide) j, A 68 (by decide) j, A 69 (by decide) j, A 70 (by decide) j, fun _ => ⟨A 71 (by decide) j, A 72 (by decide) j⟩⟩, fun q' hq' => ?_⟩
      obtain ⟨t1, t2, t3⟩ := n2 q' hq'
      have hne : q' ≠ u := fun z => t3 (by rw [z]; exact hO)
      have := hcap q' t2
      exact ⟨by rw [aN, aN, y1o q' hne], fun x hx => by rw [aN, aN, y2o _ (by omega)]⟩
    · rw [cd_frP fc (by decide) (by decide)]; exact i7
    · rw [o64, hn]; exact i8
    · rw [A 36 (by decide)]; exact i9
  · refine ⟨⟨by omega, fun j _ => ⟨A 66 (by decide) j, A 67 (by decide) j, A 68 (by decide) j, A 69 (by decide) j, A 70 (by decide) j, ⟨A 71 (by decide) j, A 72 (by decide) j⟩⟩⟩, hkp, fun i hi => ⟨⟨A 36 (by decide) i, A 37 (by decide) i, A 39 (by decide) i, A 40 (by decide) i, A 41 (by decide) i, A 55 (by decide) i, md_frL fm (by decide) i, cd_frJ fc (by decide) (by decide) i⟩, fun hne => ⟨A 46 (by decide) i, rL_fr fc (by simp), cd_frI fc (by decide) (by decide) i⟩, fun hna => ?_⟩, fun v _ => ⟨A 51 (by decide) v, md_frL fm (by decide) v, A 53 (by decide) v, A 54 (by decide) v⟩, md_frI fm (by decide), fun i _ => A 57 (by decide) i, md_frI fm (by decide), md_frI fm (by decide), md_frI fm (by decide), cd_frI fc (by decide) (by decide) 0, cd_frP fc (by decide) (by decide) 0, fun i a1 a2 => ?_, by omega⟩
    · have hne : i ≠ u := fun z => hna (by rw [z]; exact hu)
      exact ⟨y1o i hne, fun x hx => y2o _ (by omega)⟩
    · omega
