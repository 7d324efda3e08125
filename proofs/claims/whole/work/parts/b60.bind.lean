/-! a variable comes into scope, and leaves it -/
theorem upn_le {m : md_S} {un : Nat} (hp : ∀ i, i < un → mA m 36 i ≠ 0 → par m i < i) : ∀ (k u : Nat), u < un → (∀ j, j < k → mA m 36 (upn m j u) ≠ 0) → upn m k u ≤ u
  | 0, u, _, _ => Nat.le_refl u
  | k + 1, u, hu, h => by
      have h1 : par m u < u := hp u hu (h 0 (by omega))
      have := upn_le hp k (par m u) (by omega) (fun j hj => h (j + 1) (by omega))
      show upn m k (par m u) ≤ u
      omega
theorem ST.anle {c : cd_S} {m : md_S} {O : List Nat} {mc k kl : Nat} (h : ST c m O mc k kl) : ∀ u, AN m u (mN m 64) → u ≤ mN m 64 := by
  rintro u ⟨k, h1, h2⟩
  have hn := h.nv.2.1
  rw [← h1]
  refine upn_le (un := mN m 35) (fun i hi h0 => ?_) k _ h.now.1 h2
  obtain ⟨-, -, -, -, -, -, -, -, -, -, z, -⟩ := h.ur i hi
  rcases z with ⟨z, -⟩ | ⟨-, j, j1, j2, -⟩
  · exact absurd z h0
  · show aN m 40 i < i
    rw [aN_of j2 (by omega)]; exact j1
theorem c_declare {n : Nat} {c : cd_S} {s : Nat} {nm : Int64} {key : Int32} (h : cI c 134 0 = nI s) (hs : s < 12) : f_X4_declare n c nm key = some (0, cSI (cSA (cSL c 132 0 s nm) 133 0 s key) 134 0 (nI (s + 1))) := by
  unfold f_X4_declare
  have h1 : cI (cSL c 132 0 s nm) 134 0 = nI s := h
  have h2 : cI (cSA (cSL c 132 0 s nm) 133 0 s key) 134 0 = nI s := h
  rw [h, if_neg (show ¬ (12 : Int32) ≤ nI s from fun y => absurd ((nI_leI (a := 12) (by decide) (by omega)).mp y) (by omega)), c_st132 hs, bs_some, h1, c_st133 hs, bs_some, h2, nI_1, bs_some]
/-- c', m': with one variable more in scope -/
def BI (c c' : cd_S) (m m' : md_S) (s v : Nat) (nm : Int64) (key : Int32) : Prop := c' = cSI (cSA (cSL c 132 0 s nm) 133 0 s key) 134 0 (nI (s + 1)) ∧ m' = mSI (mSA m 57 s (nI v)) 56 (nI (s + 1)) ∧ cI c 134 0 = nI s ∧ mI m 56 = nI s ∧ s < 12
theorem BI.fr {c c' : cd_S} {m m' : md_S} {s v : Nat} {nm : Int64} {key : Int32} (h : BI c c' m m' s v nm key) : cd_fr [132, 133, 134] [] c c' ∧ md_fr [56, 57] m m' ∧ cI c' 134 0 = nI (s + 1) ∧ mI m' 56 = nI (s + 1) ∧ cLr c' 132 0 s = nm ∧ cAr c' 133 0 s = key ∧ mA m' 57 s = nI v ∧ ∀ i, i ≠ s → cLr c' 132 0 i = cLr c 132 0 i ∧ cAr c' 133 0 i = cAr c 133 0 i ∧ mA m' 57 i = mA m 57 i := by
  obtain ⟨rfl, rfl, h1, h2, h3⟩ := h
  refine ⟨cd_fr_SI (cd_fr_SA (cd_fr_SL (cd_fr_refl _ _ _) (by decide) _ _ _) (by decide) _ _ _) (by decide) (by decide) _ _, md_fr_SI (md_fr_SA (md_fr_refl _ _) (by decide) _ _) (by decide) _, cI_SIe, mI_SIe, ?_, ?_, ?_, fun i hi => ⟨?_, ?_, ?_⟩⟩
  · show cLr (cSL c 132 0 s nm) 132 0 s = nm
    exact cL_SLe
  · show cAr (cSA (cSL c 132 0 s nm) 133 0 s key) 133 0 s = key
    exact cA_SAe
  · show mA (mSA m 57 s (nI v)) 57 s = nI v
    exact mA_SAe
  · show cLr (cSL c 132 0 s nm) 132 0 i = _
    exact cL_SLi hi
  · show cAr (cSA (cSL c 132 0 s nm) 133 0 s key) 133 0 i = _
    exact cA_SAi hi
  · show mA (mSA m 57 s (nI v)) 57 i = _
    exact mA_SAi hi
theorem ST.bind {c c' : cd_S} {m m' : md_S} {O : List Nat} {mc k kl s v : Nat} {nm : Int64} {key : Int32} (h : ST c m O mc k kl) (hb : BI c c' m m' s v nm key) (hv : v < mN m 50) (hown : mA m 51 v = nI (mN m 64)) (hkv : kv m v = key) (hnr : NR nm (mL m 52 v)) : ST c' m' O mc k kl := by
  obtain ⟨q62, q35, q50, -, -, c66, -, -, -, -, n134, -, -, -⟩ := h.nv
  have hnow := h.now
  have hs12 := hb.2.2.2.2
  have hc134 := hb.2.2.1
  have hm56 := hb.2.2.2.1
  obtain ⟨fc, fm, x1, x2, x3, x4, x5, x6⟩ := hb.fr
  have hc : ∀ F : List Nat, (∀ f, f ∈ F → f ∉ [132, 133, 134] ∧ f ≠ 193) → CE F c c' := fun F hF => CE.of fc hF
  have hm : ∀ G : List Nat, (∀ f, f ∈ G → f ∉ [56, 57]) → ME G m m' := fun G hG => ME.of fm hG
  have o : ∀ q, q ∉ [56, 57] → mN m' q = mN m q := fun q hq => mN_fr fm hq
  have o35 := o 35 (by decide)
  have o50 := o 50 (by decide)
  have o62 := o 62 (by decide)
  have o64 := o 64 (by decide)
  have o65 := o 65 (by decide)
  have n56 : mN m 56 = s := mN_of hm56 (by omega)
  have n56' : mN m' 56 = s + 1 := mN_of x2 (by omega)
  have k1 : cN c' 138 = cN c 138 := by rw [cN, cN, cd_frI fc (by decide) (by decide)]
  have k2 : cN c' 66 = cN c 66 := by rw [cN, cN, cd_frI fc (by decide) (by decide)]
  have k3 : cN c' 134 = s + 1 := cN_of x1 (by omega)
  have A : ∀ f, f ∉ [56, 57] → ∀ i, mA m' f i = mA m f i := fun f hf i => md_frA fm hf i
  have hk : ∀ v, kv m' v = kv m v := kv_ME (hm _ (by decide))
  have hn : ∀ a u, AN m' a u ↔ AN m a u := AN_ME (hm _ (by decide))
  obtain ⟨⟨z1, z2, z3, z4, z5, z6, z7, z8, z9⟩, ⟨b1, b2, b3, b4, b5⟩, ⟨d1, d2, d3, d4, d5, d6⟩, e, f, g, i1, i2, i3, ⟨gg, ll, i4⟩, i5, i6, ⟨r, i7, i8, i9⟩, i10, i11⟩ := h
  refine ⟨⟨?_, ?_, ?_, ?_, ?_, ?_, ?_, ?_, ?_⟩, ⟨?_, ?_, ?_, ?_, ?_⟩, ⟨?_, ?_, ?_, ?_, d5, ?_⟩, ?_, ?_, ?_, i1.to (hc _ (by decide)) (hm _ (by decide)) (by omega), i2.to (hc _ (by decide)) (hm _ (by decide)) (by omega), i3.to (hc _ (by decide)) (hm _ (by decide)), ⟨gg, ll, i4.me (hc _ (by decide)) (hm _ (by decide))⟩, i5.to (hc _ (by decide)) (hm _ (by decide)) (by omega), ?_, ⟨r, ?_, ?_, ?_⟩, by omega, fun u hu => i11 u (by rw [o64, hn] at hu; exact hu)⟩
  · rw [k1, cd_frI fc (by decide) (by decide)]; exact z1
  · rw [k1]; exact z2
  · rw [k2, cd_frI fc (by decide) (by decide)]; exact z3
  · rw [k2]; exact z4
  · rw [k1, k2, scS_ext (c := c) (c' := c') (fun i _ => by rw [rsz, rsz, cd_frz fc (by simp)])]; exact z5
  · trivial
  · rw [k2, cd_frP fc (by decide) (by decide)]; exact z7
  · rw [k2, cd_frP fc (by decide) (by decide)]; exact z8
  · intro i hi
    rw [k2] at hi ⊢
    rw [k1, cd_frI fc (by decide) (by decide), cd_frI fc (by decide) (by decide), cd_frI fc (by decide) (by decide)]
    have : rsz c' (17 + 3 * i) = rsz c (17 + 3 * i) := by rw [rsz, rsz, cd_frz fc (by simp)]
    rw [this]; exact z9 i hi
  · rw [cd_frI fc (by decide) (by decide), md_frI fm (by decide)]; exact b1
  · rw [cd_frI fc (by decide) (by decide), md_frI fm (by decide)]; exact b2
  · rw [x1, x2]
  · rw [cd_frP fc (by decide) (by decide), o64]; exact b4
  · rw [o64, md_frI fm (by decide)]; exact b5
  · rw [o65, md_frI fm (by decide)]; exact d1
  · omega
  · rw [o50, md_frI fm (by decide)]; exact d3
  · omega
  · intro i hi
    obtain ⟨l, l1, l2⟩ := d6 i (by omega)
    exact ⟨l, by rw [cd_frI fc (by decide) (by decide)]; exact l1, by omega⟩
  · exact fun i hi => (e i (by omega)).to (hc _ (by decide)) (hm _ (by decide))
  · exact fun v hv => (f v (by omega)).to (hm _ (by decide)) (by omega)
  · obtain ⟨s1, s2, s3⟩ := g
    refine ⟨⟨by rw [n56']; exact x2, by omega, by rw [cd_frI fc (by decide) (by decide), o64, A 37 (by decide)]; exact s1.2.2⟩, fun i hi => ?_, fun u hu => ?_⟩
    · rw [n56'] at hi
      by_cases hi6 : i = s
      · rw [hi6, x3, x4, x5]
        refine ⟨v, by omega, rfl, by rw [md_frL fm (by decide)]; exact hnr, by rw [hk]; exact hkv.symm, ?_⟩
        rw [hn, o64, aN, A 51 (by decide), hown, nI_clamp (by omega)]
        exact ⟨0, rfl, fun j hj => absurd hj (by omega)⟩
      · obtain ⟨y1, y2, y3⟩ := x6 i hi6
        obtain ⟨v', v1, v2, v3, v4, v5⟩ := s2 i (by omega)
        exact ⟨v', by omega, y3.trans v2, by rw [y1, md_frL fm (by decide)]; exact v3, by rw [y2, hk]; exact v4, by rw [hn, o64, aN, A 51 (by decide)]; exact v5⟩
    · rw [o64, hn] at hu
      obtain ⟨t1, t2⟩ := s3 u hu
      have e44 : aN m' 44 u = aN m 44 u := by rw [aN, aN, A 44 (by decide)]
      rw [e44]
      refine ⟨fun x hx => ?_, fun x y hx hy => ?_⟩
      · rw [A 45 (by decide)]
        rcases t1 x hx with ⟨r, r1, r2, r3⟩ | ⟨i, j1, j2⟩
        · exact Or.inl ⟨r, by rw [o64, hn]; exact r1, by rw [A 36 (by decide)]; exact r2, by rw [A 55 (by decide)]; exact r3⟩
        · exact Or.inr ⟨i, by omega, by rw [(x6 i (by omega)).2.2]; exact j2⟩
      · rw [A 45 (by decide), A 45 (by decide)]; exact t2 x y hx hy
  · intro i hi hO
    exact (i6 i (by omega) hO).to (rL_fr fc (by simp)) (cd_frI fc (by decide) (by decide) _) (A 41 (by decide) i) (KP.of (hm _ (by decide))) q35 (by omega) (by omega) (fun r ns _ _ _ => TK.of (hm _ (by decide)) r ns) (clk (hm _ (by decide)))
  · rw [cd_frP fc (by decide) (by decide)]; exact i7
  · rw [o64, hn]; exact i8
  · rw [A 36 (by decide)]; exact i9
