/-! variables -/
/-- what is saved up for a variable -/
theorem ST.shift {c : cd_S} {m : md_S} {O : List Nat} {mc mc2 k kl kl2 : Nat} (h : ST c m O mc k kl) (hkl : kl ≤ kl2) (h40 : kl2 ≤ 40) (hmc : mc2 % 16 = mc % 16) (hd : 2 * mN m 50 + mc2 / 16 ≤ mN m 62 + kl2 + 8 * mN m 35) : ST c m O mc2 k kl2 := by
  obtain ⟨a1, a2, ⟨d1, d2, d3, d4, d5, d6⟩, e, f, g, i1, i2, i3, i4, i5, r⟩ := h
  refine ⟨a1, a2, ⟨d1, by omega, d3, hd, h40, fun i hi => ?_⟩, e, f, g, i1, i2, i3, i4, by rw [hmc]; exact i5, r⟩
  obtain ⟨l, l1, l2⟩ := d6 i hi
  exact ⟨l, l1, by omega⟩
theorem ST.vb {c : cd_S} {m : md_S} {O : List Nat} {mc k kl : Nat} (h : ST c m O mc k kl) : 2 * mN m 50 + mc / 16 ≤ mN m 62 + kl + 8 * mN m 35 ∧ kl ≤ 40 := by
  obtain ⟨a1, a2, ⟨d1, d2, d3, d4, d5, d6⟩, r⟩ := h
  exact ⟨d4, d5⟩
theorem ST.ur {c : cd_S} {m : md_S} {O : List Nat} {mc k kl : Nat} (h : ST c m O mc k kl) : ∀ i, i < mN m 35 → UR c m i := by
  obtain ⟨a1, a2, a3, e, r⟩ := h
  exact e
theorem ST.q64 {c : cd_S} {m : md_S} {O : List Nat} {mc k kl : Nat} (h : ST c m O mc k kl) : mN m 64 < mN m 35 ∧ mN m 64 < 60 := by
  have h2 := h.nv.2.1
  obtain ⟨-, -, -, -, -, -, -, -, -, -, -, -, -, z, -⟩ := h
  exact ⟨z, by omega⟩
theorem ST.cv {c : cd_S} {m : md_S} {O : List Nat} {mc k kl : Nat} (h : ST c m O mc k kl) : ∀ q, q < mN m 35 → ∀ x, x < aN m 44 q → aN m 45 (16 * q + x) < mN m 50 := by
  intro u hu x hx
  have h50 := h.nv.2.2.1
  obtain ⟨-, -, -, -, -, -, -, -, -, ⟨q, q1, q2, q3, q4⟩, -⟩ := h.ur u hu
  rw [aN_of q3 (by omega)] at hx
  obtain ⟨v, v1, v2, v3, v4⟩ := q4 x hx
  rw [aN_of v2 (by omega)]; exact v1
theorem ST.vr {c : cd_S} {m : md_S} {O : List Nat} {mc k kl : Nat} (h : ST c m O mc k kl) : ∀ i, i < mN m 50 → VR m i := by
  obtain ⟨a1, a2, a3, e, f, r⟩ := h
  exact f
theorem ST.sc {c : cd_S} {m : md_S} {O : List Nat} {mc k kl : Nat} (h : ST c m O mc k kl) : SCR c m := by
  obtain ⟨a1, a2, a3, e, f, g, r⟩ := h
  exact g
theorem UR.vr {c c' : cd_S} {m m' : md_S} {i : Nat} (h : UR c m i) (hc : CE [101, 289, 290, 291, 292, 293, 294, 295, 296, 297, 299, 300, 301] c c') (hm : ME [36, 37, 38, 39, 40, 42, 43, 44, 45, 55] m m') (hv : ∀ v, v < mN m 50 → kv m' v = kv m v ∧ mA m' 51 v = mA m 51 v ∧ mA m' 53 v = mA m 53 v ∧ mA m' 54 v = mA m 54 v) (h50 : mN m 50 ≤ mN m' 50) (hq : ∃ q, mA m' 46 i = nI q ∧ q ≤ mN m' 50 ∧ cI c' 298 i = nI (ub m i + q)) : UR c' m' i := by
  have u : ∀ x, ub m' x = ub m x := fun x => by unfold ub aN; rw [(hm 36 (by decide)).2.2.1, (hm 39 (by decide)).2.2.1]
  obtain ⟨a1, a2, a3, a4, a5, a6, a7, a8, a9, ⟨q, q1, q2, q3, q4⟩, a11, a12⟩ := h
  unfold UR
  simp only [u, (hc 293 (by decide)).2.1, (hc 297 (by decide)).1, (hc 301 (by decide)).1, (hm 43 (by decide)).2.2.2, (hc 289 (by decide)).1, (hc 290 (by decide)).1, (hc 291 (by decide)).1, (hc 292 (by decide)).1, (hc 294 (by decide)).1, (hc 295 (by decide)).1, (hc 296 (by decide)).1, (hc 299 (by decide)).1, (hc 300 (by decide)).2.2.1, (hc 101 (by decide)).2.2.1, (hm 36 (by decide)).2.2.1, (hm 37 (by decide)).2.2.1, (hm 38 (by decide)).2.2.1, (hm 39 (by decide)).2.2.1, (hm 40 (by decide)).2.2.1, (hm 42 (by decide)).2.2.1, (hm 44 (by decide)).2.2.1, (hm 45 (by decide)).2.2.1, (hm 55 (by decide)).2.2.1]
  refine ⟨a1, a2, a3, a4, a5, a6, a7, a8, hq, ⟨q, q1, q2, q3, fun x hx => ?_⟩, ?_, a12⟩
  · obtain ⟨v, v1, v2, v3, v4⟩ := q4 x hx
    obtain ⟨k1, k2, k3, k4⟩ := hv v v1
    exact ⟨v, by omega, v2, by rw [k1]; exact v3, by rw [aN, k2]; exact v4⟩
  · rcases a11 with ⟨b1, b2, b3, v, v1, v2, v3, v4, v5⟩ | b
    · obtain ⟨k1, k2, k3, k4⟩ := hv v v1
      exact Or.inl ⟨b1, b2, b3, v, by omega, v2, k2.trans v3, k3.trans v4, k4.trans v5⟩
    · exact Or.inr b
theorem SCR.vr {c c' : cd_S} {m m' : md_S} (h : SCR c m) (hc : CE [132, 133, 137] c c') (hm : ME [36, 37, 40, 44, 45, 55, 56, 57, 64] m m') (hv : ∀ v, v < mN m 50 → kv m' v = kv m v ∧ mA m' 51 v = mA m 51 v ∧ mL m' 52 v = mL m 52 v) (h50 : mN m 50 ≤ mN m' 50) : SCR c' m' := by
  have e2 := hm.mN (k := 56) (by decide)
  have e3 := hm.mN (k := 64) (by decide)
  have n : ∀ a u, AN m' a u ↔ AN m a u := AN_ME (hm.sub (by decide))
  have a4 : ∀ v, aN m' 44 v = aN m 44 v := fun v => by rw [aN, aN, (hm 44 (by decide)).2.2.1]
  obtain ⟨s1, s2, s3⟩ := h
  unfold SCR
  simp only [e2, e3, n, a4, (hc 137 (by decide)).1, (hm 37 (by decide)).2.2.1, (hm 56 (by decide)).1, (hc 132 (by decide)).2.2.2.1, (hc 133 (by decide)).2.2.1, (hm 36 (by decide)).2.2.1, (hm 45 (by decide)).2.2.1, (hm 55 (by decide)).2.2.1, (hm 57 (by decide)).2.2.1]
  refine ⟨s1, fun i hi => ?_, s3⟩
  obtain ⟨v, v1, v2, v3, v4, v5⟩ := s2 i hi
  obtain ⟨k1, k2, k3⟩ := hv v v1
  exact ⟨v, by omega, v2, by rw [k3]; exact v3, by rw [k1]; exact v4, by rw [aN, k2]; exact v5⟩
/-- a variable of the unit at work, made -/
theorem ST.own {c c' : cd_S} {m m' : md_S} {O : List Nat} {mc mc2 k kl kl2 q : Nat} (h : ST c m O mc k kl) (fc : cd_fr [298, 327, 328, 329, 330] [] c c') (fm : md_fr [6, 7, 8, 9, 10, 11, 12, 13, 14, 15, 46, 50, 51, 52, 53, 54, 73] m m') (h7 : mI m' 7 = mI m 7) (hq5 : q ≤ mN m 50) (h298v : cI c 298 (mN m 64) = nI (ub m (mN m 64) + q)) (h298 : cI c' 298 (mN m 64) = cI c 298 (mN m 64) + 1) (h298o : ∀ i, i ≠ mN m 64 → cI c' 298 i = cI c 298 i) (h46 : mA m' 46 (mN m 64) = nI (q + 1)) (h46o : ∀ i, i ≠ mN m 64 → mA m' 46 i = mA m 46 i) (h50 : mI m' 50 = nI (mN m 50 + 1)) (ho : ∀ v, v < mN m 50 → mA m' 51 v = mA m 51 v ∧ mL m' 52 v = mL m 52 v ∧ mA m' 53 v = mA m 53 v ∧ mA m' 54 v = mA m 54 v) (h51 : mA m' 51 (mN m 50) = nI (mN m 64)) (h53 : mA m' 53 (mN m 50) = nI q) (h54 : mA m' 54 (mN m 50) = 1) (hkl : kl ≤ kl2) (h40 : kl2 ≤ 40) (hmc : mc2 % 16 = mc % 16) (hd : 2 * (mN m 50 + 1) + mc2 / 16 ≤ mN m 62 + kl2 + 8 * mN m 35) : ST c' m' O mc2 k kl2 ∧ GR c c' m m' ∧ mN m' 50 = mN m 50 + 1 ∧ kv m' (mN m 50) = nI (mN m 64 * 1024 + (ub m (mN m 64) + q)) := by
  obtain ⟨q62, q35, q50, -⟩ := h.nv
  have hnow := h.now
  have hc : ∀ F : List Nat, (∀ f, f ∈ F → f ∉ [298, 327, 328, 329, 330] ∧ f ≠ 193) → CE F c c' := fun F hF => CE.of fc hF
  have hm : ∀ G : List Nat, (∀ f, f ∈ G → f ∉ [6, 7, 8, 9, 10, 11, 12, 13, 14, 15, 46, 50, 51, 52, 53, 54, 73]) → ME G m m' := fun G hG => ME.of fm hG
  have o : ∀ q, q ∉ [6, 7, 8, 9, 10, 11, 12, 13, 14, 15, 46, 50, 51, 52, 53, 54, 73] → mN m' q = mN m q := fun q hq => mN_fr fm hq
  have o35 := o 35 (by decide)
  have o62 := o 62 (by decide)
  have o64 := o 64 (by decide)
  have o65 := o 65 (by decide)
  have o48 := o 48 (by decide)
  have o58 := o 58 (by decide)
  have o60 := o 60 (by decide)
  have n50 : mN m' 50 = mN m 50 + 1 := mN_of h50 (by omega)
  have A : ∀ f, f ∉ [6, 7, 8, 9, 10, 11, 12, 13, 14, 15, 46, 50, 51, 52, 53, 54, 73] → ∀ i, mA m' f i = mA m f i := fun f hf i => md_frA fm hf i
  have hub : ∀ x, ub m' x = ub m x := fun x => by unfold ub aN; rw [A 36 (by decide), A 39 (by decide)]
  have hkv : ∀ v, v < mN m 50 → kv m' v = kv m v := fun v hv => by
    obtain ⟨k1, k2, k3, k4⟩ := ho v hv
    unfold kv vI aN
    rw [k1, k3, k4, hub]
  have hkp : KP m m' := ⟨hkv, by omega, by omega, by omega, by omega, by omega, fun i => ⟨md_frA fm (by decide) i, md_frA fm (by decide) i⟩, CG.vs fm (by decide) (fun v hv => (ho v hv).1), S36.fr fm (by decide)⟩
  have hkn : kv m' (mN m 50) = nI (mN m 64 * 1024 + (ub m (mN m 64) + q)) := by
    unfold kv vI
    rw [if_neg (by rw [h54]; decide), aN_of h51 (by omega), aN_of h53 (by omega), hub]
  refine ⟨?_, ?_, n50, hkn⟩
  · obtain ⟨a1, ⟨b1, b2, b3, b4, b5⟩, ⟨d1, d2, d3, d4, d5, d6⟩, e, f, g, i1, i2, i3, ⟨gg, ll, i4⟩, i5, i6, ⟨r, i7, i8, i9⟩, i10, i11⟩ := h
    refine ⟨a1.to (hc _ (by decide)) (fun i _ => cd_frz fc (by simp)), ⟨?_, ?_, ?_, ?_, ?_⟩, ⟨?_, ?_, ?_, ?_, h40, ?_⟩, ?_, ?_, g.vr (hc _ (by decide)) (hm _ (by decide)) (fun v hv => ⟨hkv v hv, (ho v hv).1, (ho v hv).2.1⟩) (by omega), i1.to (hc _ (by decide)) (hm _ (by decide)) (by omega), i2.to (hc _ (by decide)) (hm _ (by decide)) (by omega), i3.to (hc _ (by decide)) (hm [17, 18, 19, 48, 49, 136] (by decide)), ⟨gg, ll, i4.me (hc _ (by decide)) (hm _ (by decide))⟩, by rw [hmc]; exact i5.to (hc _ (by decide)) (hm _ (by decide)) (by omega), ?_, ⟨r, ?_, ?_, ?_⟩, by omega, fun u hu => i11 u (by rw [o64, AN_ME (hm _ (by decide))] at hu; exact hu)⟩
    · rw [cd_frI fc (by decide) (by decide), md_frI fm (by decide)]; exact b1
    · rw [cd_frI fc (by decide) (by decide), md_frI fm (by decide)]; exact b2
    · rw [cd_frI fc (by decide) (by decide), md_frI fm (by decide)]; exact b3
    · rw [cd_frP fc (by decide) (by decide), o64]; exact b4
    · rw [o64, md_frI fm (by decide)]; exact b5
    · rw [o65, md_frI fm (by decide)]; exact d1
    · omega
    · rw [n50]; exact h50
    · omega
    · intro i hi
      obtain ⟨l, l1, l2⟩ := d6 i (by omega)
      exact ⟨l, by rw [cd_frI fc (by decide) (by decide)]; exact l1, by omega⟩
    · intro i hi
      have hu := e i (by omega)
      refine hu.vr (hc _ (by decide)) (hm _ (by decide)) (fun v hv => ⟨hkv v hv, (ho v hv).1, (ho v hv).2.2.1, (ho v hv).2.2.2⟩) (by omega) ?_
      by_cases hi6 : i = mN m 64
      · rw [hi6]
        exact ⟨q + 1, h46, by omega, by rw [h298, h298v, nI_1, Nat.add_assoc]⟩
      · obtain ⟨-, -, -, -, -, -, -, -, ⟨q0, z1, z2, z3⟩, -⟩ := hu
        exact ⟨q0, (h46o i hi6).trans z1, by omega, (h298o i hi6).trans z3⟩
    · intro v hv
      by_cases hv5 : v = mN m 50
      · rw [hv5]
        refine ⟨⟨mN m 64, by omega, h51⟩, ⟨q, by omega, h53⟩, ?_, fun v2 hv2 e9 => ?_⟩
        · unfold vI
          rw [if_neg (by rw [h54]; decide), aN_of h51 (by omega), aN_of h53 (by omega), aN_of h46 (by omega), hub]
          omega
        · rw [hkv v2 hv2, hkn] at e9
          obtain ⟨⟨u, u1, u2⟩, -, r, -⟩ := f v2 hv2
          have hu := e u u1
          rw [aN_of u2 (by omega)] at r
          obtain ⟨-, -, -, -, -, -, ⟨p, p1, p2⟩, -, ⟨q0, z1, z2, z3⟩, -⟩ := hu
          have hu4 : ub m u ≤ 4 := by
            unfold ub
            rw [aN_of p2 (by omega)]
            split <;> omega
          rw [aN_of z1 (by omega)] at r
          have h64 := e (mN m 64) i10
          obtain ⟨-, -, -, -, -, -, ⟨p', p1', p2'⟩, -⟩ := h64
          have hu4' : ub m (mN m 64) ≤ 4 := by
            unfold ub
            rw [aN_of p2' (by omega)]
            split <;> omega
          unfold kv at e9
          rw [aN_of u2 (by omega)] at e9
          have e10 := (nI_eq (by omega) (by omega)).mp e9
          have hue : u = mN m 64 := by omega
          rw [hue] at z1 z3 r e10
          have : q0 = q := by
            have := z3.symm.trans h298v
            have := (nI_eq (by omega) (by omega)).mp this
            omega
          omega
      · obtain ⟨⟨u, u1, u2⟩, qq, r, t⟩ := f v (by omega)
        obtain ⟨k1, k2, k3, k4⟩ := ho v (by omega)
        have ei : vI m' v = vI m v := by unfold vI aN; rw [k1, k3, k4, hub]
        have ea : aN m' 51 v = u := by rw [aN, k1, u2, nI_clamp (by omega)]
        rw [aN_of u2 (by omega)] at r
        refine ⟨⟨u, by omega, k1.trans u2⟩, by rw [k3]; exact qq, ?_, fun v2 hv2 => by rw [hkv v2 (by omega), hkv v (by omega)]; exact t v2 hv2⟩
        rw [ei, ea, hub]
        by_cases hu6 : u = mN m 64
        · rw [hu6] at r ⊢
          obtain ⟨-, -, -, -, -, -, -, -, ⟨q0, z1, z2, z3⟩, -⟩ := e (mN m 64) i10
          have : q0 = q := by
            have := z3.symm.trans h298v
            have hb4 : ub m (mN m 64) ≤ 4 := by
              obtain ⟨-, -, -, -, -, -, ⟨p', p1', p2'⟩, -⟩ := e (mN m 64) i10
              unfold ub
              rw [aN_of p2' (by omega)]
              split <;> omega
            have := (nI_eq (by omega) (by omega)).mp this
            omega
          rw [aN_of z1 (by omega)] at r
          rw [aN_of h46 (by omega)]
          omega
        · rw [aN, h46o u hu6]; exact r
    · intro i hi hO
      exact (i6 i (by omega) hO).to (rL_fr fc (by simp)) (cd_frI fc (by decide) (by decide) _) (A 41 (by decide) i) hkp q35 (by omega) (by omega) (fun r ns _ _ _ => TK.of (hm _ (by decide)) r ns) (clk (hm _ (by decide)))
    · rw [cd_frP fc (by decide) (by decide)]; exact i7
    · rw [o64, AN_ME (hm _ (by decide))]; exact i8
    · rw [A 36 (by decide)]; exact i9
  · refine ⟨⟨by omega, fun j _ => ⟨A 66 (by decide) j, A 67 (by decide) j, A 68 (by decide) j, A 69 (by decide) j, A 70 (by decide) j, ⟨A 71 (by decide) j, A 72 (by decide) j⟩⟩⟩, hkp, fun i hi => ⟨⟨A 36 (by decide) i, A 37 (by decide) i, A 39 (by decide) i, A 40 (by decide) i, A 41 (by decide) i, A 55 (by decide) i, md_frL fm (by decide) i, cd_frJ fc (by decide) (by decide) i⟩, fun hne => ⟨h46o i hne, rL_fr fc (by simp), cd_frI fc (by decide) (by decide) i⟩, fun _ => ⟨A 44 (by decide) i, fun x _ => A 45 (by decide) _⟩⟩, ho, md_frI fm (by decide), fun i _ => A 57 (by decide) i, md_frI fm (by decide), md_frI fm (by decide), h7, cd_frI fc (by decide) (by decide) 0, cd_frP fc (by decide) (by decide) 0, fun i a1 a2 => ?_, by omega⟩
    omega
theorem ST.letq {c : cd_S} {m : md_S} {O : List Nat} {mc k kl : Nat} (h : ST c m O mc k kl) : ∃ q, mA m 46 (mN m 64) = nI q ∧ q ≤ mN m 50 ∧ cI c 298 (mN m 64) = nI (ub m (mN m 64) + q) ∧ ub m (mN m 64) ≤ 4 ∧ cI c 288 (mN m 64) = nI (mN m 64) := by
  have hnow := h.now
  have hcn := h.nv.2.2.2.2.2.1
  obtain ⟨-, -, -, -, -, -, ⟨p, p1, p2⟩, -, ⟨q0, z1, z2, z3⟩, -⟩ := h.ur _ hnow.1
  refine ⟨q0, z1, z2, z3, ?_, ?_⟩
  · unfold ub
    rw [aN_of p2 (by omega)]
    split <;> omega
  · obtain ⟨⟨x1, x2, x3, x4, x5, x6, x7, x8, x9⟩, -⟩ := h
    exact (x9 _ (by omega)).2.2.2
theorem c_addOwn {n : Nat} {c : cd_S} {u : Nat} : f_X9_addOwn n c u = some (cI c 288 u * 1024 + cI c 298 u, cSI c 298 u (cI c 298 u + 1)) := by
  unfold f_X9_addOwn f_X9_ownKey
  rw [bs_some, bs_some]
theorem m_newVar {n : Nat} {m : md_S} {v : Nat} {a q z : Int32} {nm : Int64} (h : mI m 50 = nI v) (hv : v < 500) : f_X12_newVariable n m a nm q z = some (nI v, mSA (mSA (mSL (mSA (mSI m 50 (nI (v + 1))) 51 v a) 52 v nm) 53 v q) 54 v (vp_nar .boolean z)) := by
  unfold f_X12_newVariable
  rw [bs_some, h, nI_1, m_st51 hv, bs_some, m_st52 hv, bs_some, m_st53 hv, bs_some, m_st54 hv, bs_some]
