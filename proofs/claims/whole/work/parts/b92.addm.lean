/-! a method is put into its module -/
theorem Gen.q {m m' : md_S} {u : Nat} (h : md_fr [30, 31] m m') : ∀ {f : Nat} {i l0 l1 : Nat} {es : List EN} {ns : List Nat}, Gen m u f i l0 l1 es ns → Gen m' u f i l0 l1 es ns
  | 0, _, _, _, _, _, g => g.elim
  | f + 1, i, l0, l1, es, ns, ⟨h1, h2, ch, ess, n1, h3, h4, h5, h6, h7⟩ => by
      have A : ∀ k, k ∉ [30, 31] → ∀ i, mA m' k i = mA m k i := fun k hk i => md_frA h hk i
      have N : ∀ k, k ∉ [30, 31] → mN m' k = mN m k := fun k hk => mN_fr h hk
      have a : ∀ k, k ∉ [30, 31] → ∀ i, aN m' k i = aN m k i := fun k hk i => by unfold aN; rw [A k hk]
      have hkv : ∀ v, kv m' v = kv m v := kv_ME (ME.of h (by decide))
      refine ⟨by rw [A 67 (by decide)]; exact h1, h2, ch, ess, n1, ⟨?_, h3.2.1, fun x hx => by rw [A 72 (by decide)]; exact h3.2.2 x hx⟩, ?_, ?_, ?_, ?_⟩
      · rw [A 70 (by decide)]
        exact h3.1.to (fun x _ => A 71 (by decide) x)
      · rw [A 66 (by decide)]
        exact h4.imp (fun _ _ _ _ _ _ _ g => Gen.q h g)
      · rw [h5]
        unfold cmb gts
        simp only [A 66 (by decide), A 68 (by decide), A 69 (by decide), a 68 (by decide), a 44 (by decide), a 45 (by decide), hkv]
      · rw [h6]
        unfold um
        rw [A 66 (by decide), a 68 (by decide)]
      · unfold WFN OC SP at h7 ⊢
        simp only [A 36 (by decide), A 136 (by decide), a 68 (by decide), A 66 (by decide), A 68 (by decide), A 69 (by decide), a 44 (by decide), a 45 (by decide), a 51 (by decide), a 67 (by decide), N 58 (by decide), N 50 (by decide), N 60 (by decide), N 35 (by decide), N 48 (by decide), N 25 (by decide)]
        exact h7
theorem CL.q {c c' : cd_S} {m m' : md_S} {O : List Nat} {i : Nat} (h : CL c m O i) (hm : md_fr [30, 31] m m') (hL : rL c' (17 + 3 * i) = rL c (17 + 3 * i)) (h302 : cI c' 302 i = cI c 302 i) : CL c' m' O i := by
  obtain ⟨f, r, es, l, ns, a1, a2, a3, a4, a5, a6, a7, a8, a9⟩ := h
  exact ⟨f, r, es, l, ns, a1, by rw [md_frA hm (by decide)]; exact a2, ⟨a3.1.q hm, a3.2.imp (fun g hg => Gen.gw a3.1 a4 (TK.of (ME.of hm (by decide)) r ns) hg)⟩, a4, fun j hj h9 => by rw [mN_fr hm (by decide)]; exact a5 j hj h9, fun q hq => by rw [mN_fr hm (by decide)]; exact a6 q hq, hL.trans a7, h302.trans a8, fun j hj h => a9 j (by rw [mN_fr hm (by decide)] at hj; exact hj) (by rw [md_frA hm (by decide)] at h; exact h)⟩
theorem ST.addm {c c' : cd_S} {m m' : md_S} {O : List Nat} {mc k kl : Nat} (h : ST c m O mc k kl) (fc : cd_fr [72, 73, 293] [] c c') (fm : md_fr [30, 31] m m') (hM : MDR c' m' (mc % 16)) (h293 : ∀ i, i < mN m 35 → cJ c' 293 i = cJ c 293 i ∨ NR (cJ c' 293 i) (mL m 43 i)) : ST c' m' O mc k kl := by
  have hc : ∀ F : List Nat, (∀ f, f ∈ F → f ∉ [72, 73, 293] ∧ f ≠ 193) → CE F c c' := fun F hF => CE.of fc hF
  have hm : ∀ G : List Nat, (∀ f, f ∈ G → f ∉ [30, 31]) → ME G m m' := fun G hG => ME.of fm hG
  have o : ∀ q, q ∉ [30, 31] → mN m' q = mN m q := fun q hq => mN_fr fm hq
  have o35 := o 35 (by decide)
  have o50 := o 50 (by decide)
  have o62 := o 62 (by decide)
  have o64 := o 64 (by decide)
  have o65 := o 65 (by decide)
  have A : ∀ f, f ∉ [30, 31] → ∀ i, mA m' f i = mA m f i := fun f hf i => md_frA fm hf i
  obtain ⟨a1, ⟨b1, b2, b3, b4, b5⟩, ⟨d1, d2, d3, d4, d5, d6⟩, e, f, g, i1, i2, i3, ⟨gg, ll, i4⟩, i5, i6, ⟨r, i7, i8, i9⟩, i10, i11⟩ := h
  refine ⟨a1.to (hc _ (by decide)) (fun i _ => cd_frz fc (by simp)), ⟨?_, ?_, ?_, ?_, ?_⟩, ⟨?_, ?_, ?_, ?_, d5, ?_⟩, ?_, ?_, g.to (hc _ (by decide)) (hm _ (by decide)), i1.to (hc _ (by decide)) (hm _ (by decide)) (by omega), i2.to (hc _ (by decide)) (hm _ (by decide)) (by omega), i3.to (hc _ (by decide)) (hm _ (by decide)), ⟨gg, ll, i4.me (hc _ (by decide)) (hm _ (by decide))⟩, ⟨hM, fun a ha => by rw [o35]; exact i5.2.1 a ha, fun i hi => by
    obtain ⟨dd, e1, e2⟩ := i5.2.2 i (by omega)
    exact ⟨dd, e1, by rw [A 37 (by decide)]; exact e2⟩⟩, ?_, ⟨r, ?_, ?_, ?_⟩, by omega, fun u hu => i11 u (by rw [o64, AN_ME (hm _ (by decide))] at hu; exact hu)⟩
  · rw [cd_frI fc (by decide) (by decide), md_frI fm (by decide)]; exact b1
  · rw [cd_frI fc (by decide) (by decide), md_frI fm (by decide)]; exact b2
  · rw [cd_frI fc (by decide) (by decide), md_frI fm (by decide)]; exact b3
  · rw [cd_frP fc (by decide) (by decide), o64]; exact b4
  · rw [o64, md_frI fm (by decide)]; exact b5
  · rw [o65, md_frI fm (by decide)]; exact d1
  · omega
  · rw [o50, md_frI fm (by decide)]; exact d3
  · omega
  · intro i hi
    obtain ⟨l, l1, l2⟩ := d6 i (by omega)
    exact ⟨l, by rw [cd_frI fc (by decide) (by decide)]; exact l1, by omega⟩
  · intro i hi
    have I : ∀ f, f ∉ [72, 73, 293] → f ≠ 193 → cI c' f i = cI c f i := fun f h1 h2 => cd_frI fc h1 h2 i
    have hkv : ∀ v, kv m' v = kv m v := kv_ME (hm _ (by decide))
    have hub : ub m' i = ub m i := by unfold ub aN; rw [A 36 (by decide), A 39 (by decide)]
    obtain ⟨w1, w2, w3, w4, w5, w6, w7, w8, w9, ⟨q, q1, q2, q3, q4⟩, w11, ⟨d, dd1, dd2, dd3, dd4, dd5, dd6⟩⟩ := e i (by omega)
    unfold UR
    rw [hub, I 289 (by decide) (by decide), I 290 (by decide) (by decide), I 291 (by decide) (by decide), I 292 (by decide) (by decide), I 294 (by decide) (by decide), I 295 (by decide) (by decide), I 296 (by decide) (by decide), I 297 (by decide) (by decide), I 298 (by decide) (by decide), I 299 (by decide) (by decide), I 301 (by decide) (by decide), A 36 (by decide), A 37 (by decide), A 38 (by decide), A 39 (by decide), A 40 (by decide), A 42 (by decide), A 44 (by decide), A 46 (by decide), A 55 (by decide), o50, md_frL fm (by decide)]
    refine ⟨w1, w2, w3, w4, w5, w6, w7, w8, w9, ⟨q, q1, q2, q3, fun x hx => ?_⟩, ?_, ⟨d, dd1, dd2, by rw [cd_frA fc (by decide) (by decide)]; exact dd3, dd4, dd5, fun y => ?_⟩⟩
    · obtain ⟨v, v1, v2, v3, v4⟩ := q4 x hx
      exact ⟨v, v1, by rw [A 45 (by decide)]; exact v2, by rw [cd_frA fc (by decide) (by decide), hkv]; exact v3, by rw [aN, A 51 (by decide)]; exact v4⟩
    · rcases w11 with ⟨t1, t2, t3, v, v1, v2, v3, v4, v5⟩ | t
      · exact Or.inl ⟨t1, t2, t3, v, v1, v2, by rw [A 51 (by decide)]; exact v3, by rw [A 53 (by decide)]; exact v4, by rw [A 54 (by decide)]; exact v5⟩
      · exact Or.inr t
    · rcases h293 i (by omega) with z | z
      · rw [z]; exact dd6 y
      · exact Or.inl z
  · exact fun v hv => (f v (by omega)).to (hm _ (by decide)) (by omega)
  · intro i hi hO
    exact (i6 i (by omega) hO).q fm (rL_fr fc (by simp)) (cd_frI fc (by decide) (by decide) _)
  · rw [cd_frP fc (by decide) (by decide)]; exact i7
  · rw [o64, AN_ME (hm _ (by decide))]; exact i8
  · rw [A 36 (by decide)]; exact i9
/-- the two tables with one method more -/
theorem MDR.addm {c c' : cd_S} {m m' : md_S} {mc d kM u : Nat} (h : MDR c m mc) (hd : d < mc) (hk : cAr c 73 0 d = nI kM) (hk12 : kM < 12) (hu : u < mN m 35) (fc : cd_fr [72, 73, 293] [] c c') (fm : md_fr [30, 31] m m') (o73 : ∀ i, i ≠ d → cAr c' 73 0 i = cAr c 73 0 i) (x73 : cAr c' 73 0 d = nI (kM + 1)) (o30 : ∀ i, i ≠ d → mA m' 30 i = mA m 30 i) (x30 : mA m' 30 d = nI (kM + 1)) (o72 : ∀ i, i ≠ 12 * d + kM → cAr c' 72 0 i = cAr c 72 0 i) (x72 : cAr c' 72 0 (12 * d + kM) = nI u) (o31 : ∀ i, i ≠ 12 * d + kM → mA m' 31 i = mA m 31 i) (x31 : mA m' 31 (12 * d + kM) = nI u) : MDR c' m' mc := by
  obtain ⟨a1, a2, a25, a3⟩ := h
  refine ⟨a1, by rw [cd_frI fc (by decide) (by decide)]; exact a2, by rw [md_frI fm (by decide)]; exact a25, fun i hi => ?_⟩
  simp only [cd_frL fc (show 67 ∉ [72, 73, 293] by decide) (by decide), md_frL fm (show 26 ∉ [30, 31] by decide), cd_frA fc (show 68 ∉ [72, 73, 293] by decide) (by decide), md_frA fm (show 27 ∉ [30, 31] by decide), cd_frA fc (show 70 ∉ [72, 73, 293] by decide) (by decide), md_frA fm (show 28 ∉ [30, 31] by decide), cd_frL fc (show 69 ∉ [72, 73, 293] by decide) (by decide), md_frL fm (show 29 ∉ [30, 31] by decide), cd_frA fc (show 71 ∉ [72, 73, 293] by decide) (by decide), mN_fr fm (show 35 ∉ [30, 31] by decide)]
  obtain ⟨b1, b2, b3, b4, ⟨k, k1, k2, k3, k4⟩, b6⟩ := a3 i hi
  refine ⟨b1, b2, b3, b4, ?_, b6⟩
  by_cases hid : i = d
  · have hkk : k = kM := by rw [hid] at k2; exact (nI_eq (by omega) (by omega)).mp (k2.symm.trans hk)
    rw [hid]
    refine ⟨kM + 1, by omega, x73, x30, fun x hx => ?_⟩
    by_cases hxk : x = kM
    · rw [hxk]; exact ⟨u, hu, x72, x31⟩
    · rw [o72 _ (by omega), o31 _ (by omega)]
      have := k4 x (by omega)
      rw [hid] at this
      exact this
  · refine ⟨k, k1, by rw [o73 i hid]; exact k2, by rw [o30 i hid]; exact k3, fun x hx => ?_⟩
    rw [o72 _ (by omega), o31 _ (by omega)]
    exact k4 x hx
