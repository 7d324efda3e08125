/-! the tables of modules change -/
theorem Gen.q2 {m m' : md_S} {u : Nat} (h : md_fr [6, 7, 8, 9, 10, 11, 12, 13, 14, 15, 25, 26, 27, 28, 29, 30] m m') (h25 : mN m 25 ≤ mN m' 25) : ∀ {f : Nat} {i l0 l1 : Nat} {es : List EN} {ns : List Nat}, Gen m u f i l0 l1 es ns → Gen m' u f i l0 l1 es ns
  | 0, _, _, _, _, _, g => g.elim
  | f + 1, i, l0, l1, es, ns, ⟨h1, h2, ch, ess, n1, h3, h4, h5, h6, h7⟩ => by
      have A : ∀ k, k ∉ [6, 7, 8, 9, 10, 11, 12, 13, 14, 15, 25, 26, 27, 28, 29, 30] → ∀ i, mA m' k i = mA m k i := fun k hk i => md_frA h hk i
      have N : ∀ k, k ∉ [6, 7, 8, 9, 10, 11, 12, 13, 14, 15, 25, 26, 27, 28, 29, 30] → mN m' k = mN m k := fun k hk => mN_fr h hk
      have a : ∀ k, k ∉ [6, 7, 8, 9, 10, 11, 12, 13, 14, 15, 25, 26, 27, 28, 29, 30] → ∀ i, aN m' k i = aN m k i := fun k hk i => by unfold aN; rw [A k hk]
      have hkv : ∀ v, kv m' v = kv m v := kv_ME (ME.of h (by decide))
      refine ⟨by rw [A 67 (by decide)]; exact h1, h2, ch, ess, n1, ⟨?_, h3.2.1, fun x hx => by rw [A 72 (by decide)]; exact h3.2.2 x hx⟩, ?_, ?_, ?_, ?_⟩
      · rw [A 70 (by decide)]
        exact h3.1.to (fun x _ => A 71 (by decide) x)
      · rw [A 66 (by decide)]
        exact h4.imp (fun _ _ _ _ _ _ _ g => Gen.q2 h h25 g)
      · rw [h5]
        unfold cmb gts
        simp only [A 66 (by decide), A 68 (by decide), A 69 (by decide), a 68 (by decide), a 44 (by decide), a 45 (by decide), hkv]
      · rw [h6]
        unfold um
        rw [A 66 (by decide), a 68 (by decide)]
      · unfold WFN OC SP at h7 ⊢
        simp only [A 36 (by decide), A 136 (by decide), a 68 (by decide), A 66 (by decide), A 68 (by decide), A 69 (by decide), a 44 (by decide), a 45 (by decide), a 51 (by decide), a 67 (by decide), N 58 (by decide), N 50 (by decide), N 60 (by decide), N 35 (by decide), N 48 (by decide)]
        rcases h7 with z | z | z | ⟨z1, z2, ⟨y, z3, z4, z5⟩, z6⟩ | z
        · exact Or.inl z
        · exact Or.inr (Or.inl z)
        · exact Or.inr (Or.inr (Or.inl z))
        · exact Or.inr (Or.inr (Or.inr (Or.inl ⟨z1, z2, ⟨y, z3, z4, Nat.lt_of_lt_of_le z5 h25⟩, z6⟩)))
        · exact Or.inr (Or.inr (Or.inr (Or.inr z)))
theorem CL.q2 {c c' : cd_S} {m m' : md_S} {O : List Nat} {i : Nat} (h : CL c m O i) (hm : md_fr [6, 7, 8, 9, 10, 11, 12, 13, 14, 15, 25, 26, 27, 28, 29, 30] m m') (h25 : mN m 25 ≤ mN m' 25) (hL : rL c' (17 + 3 * i) = rL c (17 + 3 * i)) (h302 : cI c' 302 i = cI c 302 i) : CL c' m' O i := by
  obtain ⟨f, r, es, l, ns, a1, a2, a3, a4, a5, a6, a7, a8, a9⟩ := h
  exact ⟨f, r, es, l, ns, a1, by rw [md_frA hm (by decide)]; exact a2, ⟨a3.1.q2 hm h25, a3.2.imp (fun g hg => Gen.gw a3.1 a4 (TK.of (ME.of hm (by decide)) r ns) hg)⟩, a4, fun j hj h9 => by rw [mN_fr hm (by decide)]; exact a5 j hj h9, fun q hq => by rw [mN_fr hm (by decide)]; exact a6 q hq, hL.trans a7, h302.trans a8, fun j hj h => a9 j (by rw [mN_fr hm (by decide)] at hj; exact hj) (by rw [md_frA hm (by decide)] at h; exact h)⟩
theorem OST.md {c c' : cd_S} {m m' : md_S} {mc mc' : Nat} (h : OST c m mc) (fc : cd_fr [67, 68, 69, 70, 71, 73, 74, 137, 327, 328, 329, 330] [] c c') (fm : md_fr [6, 7, 8, 9, 10, 11, 12, 13, 14, 15, 25, 26, 27, 28, 29, 30] m m') (hM : MDR c' m' mc') (hmc : mc ≤ mc') (hmth : ∀ i, i < mc' → ∀ x, x < aN m' 30 i → mA m' 36 (aN m' 31 (12 * i + x)) = 0) : OST c' m' mc' := by
  have hc : ∀ F : List Nat, (∀ f, f ∈ F → f ∉ [67, 68, 69, 70, 71, 73, 74, 137, 327, 328, 329, 330] ∧ f ≠ 193) → CE F c c' := fun F hF => CE.of fc hF
  have hm : ∀ G : List Nat, (∀ f, f ∈ G → f ∉ [6, 7, 8, 9, 10, 11, 12, 13, 14, 15, 25, 26, 27, 28, 29, 30]) → ME G m m' := fun G hG => ME.of fm hG
  have o : ∀ q, q ∉ [6, 7, 8, 9, 10, 11, 12, 13, 14, 15, 25, 26, 27, 28, 29, 30] → mN m' q = mN m q := fun q hq => mN_fr fm hq
  have o35 := o 35 (by decide)
  have o50 := o 50 (by decide)
  have o62 := o 62 (by decide)
  have o65 := o 65 (by decide)
  have A : ∀ f, f ∉ [6, 7, 8, 9, 10, 11, 12, 13, 14, 15, 25, 26, 27, 28, 29, 30] → ∀ i, mA m' f i = mA m f i := fun f hf i => md_frA fm hf i
  have I : ∀ f, f ∉ [67, 68, 69, 70, 71, 73, 74, 137, 327, 328, 329, 330] → f ≠ 193 → ∀ i, cI c' f i = cI c f i := fun f h1 h2 i => cd_frI fc h1 h2 i
  obtain ⟨⟨p1, p2, p3, p4, p5, p6, p7, p8, p9⟩, r1, ⟨d1, d2, d3, d4, d6⟩, e, f, i1, i2, i3, ⟨gg, ll, i4⟩, i5, i6, i7, -, i9, i10⟩ := h
  have h25 : mN m 25 ≤ mN m' 25 := by
    rw [mN_of i5.2.2.1 (by have := i5.1; omega), mN_of hM.2.2.1 (by have := hM.1; omega)]; exact hmc
  have e50 : mN m 50 ≤ 500 := by omega
  refine ⟨⟨by rw [I 138 (by decide) (by decide), md_frI fm (by decide)]; exact p1, by rw [I 66 (by decide) (by decide), md_frI fm (by decide)]; exact p2, by rw [I 134 (by decide) (by decide)]; exact p3, by rw [md_frI fm (by decide)]; exact p4, by rw [o62, md_frI fm (by decide)]; exact p5, by omega, by rw [o35, md_frI fm (by decide)]; exact p7, by omega, by rw [md_frI fm (by decide)]; exact p9⟩, fun i hi => ?_, ⟨by rw [o65, md_frI fm (by decide)]; exact d1, by omega, by rw [o50, md_frI fm (by decide)]; exact d3, by omega, fun i hi => ?_⟩, fun i hi => (e i (by omega)).to (hc _ (by decide)) (hm _ (by decide)), fun v hv => (f v (by omega)).to (hm _ (by decide)) (by omega), i1.to (hc _ (by decide)) (hm _ (by decide)) (by omega), i2.to (hc _ (by decide)) (hm _ (by decide)) (by omega), i3.to (hc _ (by decide)) (hm _ (by decide)), ⟨gg, ll, i4.me (hc _ (by decide)) (hm _ (by decide))⟩, hM, fun i hi => ?_, fun i hi h36 => ?_, hmth, fun i hi => by
    obtain ⟨dd, e1, e2⟩ := i9 i (by omega)
    exact ⟨dd, by omega, by rw [A 37 (by decide)]; exact e2⟩, by rw [o35, o62, scS_ext (c := c) (c' := c') (fun i _ => by rw [rsz, rsz, cd_frz fc (by simp)])]; exact i10⟩
  · obtain ⟨t1, t2⟩ := r1 i (by omega)
    have : rsz c' (17 + 3 * i) = rsz c (17 + 3 * i) := by rw [rsz, rsz, cd_frz fc (by simp)]
    exact ⟨by rw [this]; omega, by rw [I 288 (by decide) (by decide)]; exact t2⟩
  · obtain ⟨l, l1, l2⟩ := d6 i (by omega)
    exact ⟨l, by rw [I 302 (by decide) (by decide)]; exact l1, by omega⟩
  · exact (i6 i (by omega)).q2 fm h25 (rL_fr fc (by simp)) (I 302 (by decide) (by decide) _)
  · rw [A 36 (by decide)] at h36
    rw [cd_frJ fc (by decide) (by decide), md_frL fm (by decide)]
    exact i7 i (by omega) h36
theorem MDR.addf {c c' : cd_S} {m m' : md_S} {mc d k : Nat} (h : MDR c m mc) (hd : d + 1 = mc) (hk : cAr c 70 0 d = nI k) (hk4 : k < 4) (fc : cd_fr [69, 70] [] c c') (fm : md_fr [28, 29] m m') (o70 : ∀ i, i ≠ d → cAr c' 70 0 i = cAr c 70 0 i) (x70 : cAr c' 70 0 d = nI (k + 1)) (o28 : ∀ i, i ≠ d → mA m' 28 i = mA m 28 i) (x28 : mA m' 28 d = nI (k + 1)) (o69 : ∀ i, i ≠ 4 * d + k → cLr c' 69 0 i = cLr c 69 0 i) (o29 : ∀ i, i ≠ 4 * d + k → mL m' 29 i = mL m 29 i) (xn : NR (cLr c' 69 0 (4 * d + k)) (mL m' 29 (4 * d + k))) : MDR c' m' mc := by
  obtain ⟨a1, a2, a3, q⟩ := h
  refine ⟨a1, by rw [cd_frI fc (by decide) (by decide)]; exact a2, by rw [md_frI fm (by decide)]; exact a3, fun i hi => ?_⟩
  obtain ⟨t1, t2, t3, ⟨k', s1, s2, s3, s4⟩, ⟨k2, r1, r2, r3, r4⟩, ⟨β, b1, b2, b3, b4⟩⟩ := q i hi
  refine ⟨by rw [cd_frL fc (by decide) (by decide), md_frL fm (by decide)]; exact t1, by rw [cd_frA fc (by decide) (by decide), md_frA fm (by decide)]; exact t2, by rw [md_frA fm (by decide)]; exact t3, ?_, ⟨k2, r1, by rw [cd_frA fc (by decide) (by decide)]; exact r2, by rw [md_frA fm (by decide)]; exact r3, fun x hx => ?_⟩, ⟨β, b1, by rw [cd_frA fc (by decide) (by decide)]; exact b2, by rw [md_frA fm (by decide)]; exact b3, fun p hp hpi => ?_⟩⟩
  · by_cases hid : i = d
    · subst hid
      have hkk : k' = k := (nI_eq (by omega) (by omega)).mp (s2.symm.trans hk)
      refine ⟨k + 1, by omega, x70, x28, fun x hx => ?_⟩
      by_cases hxk : x = k
      · rw [hxk]; exact xn
      · rw [o69 _ (by omega), o29 _ (by omega)]
        exact s4 x (by omega)
    · refine ⟨k', s1, (o70 i hid).trans s2, (o28 i hid).trans s3, fun x hx => ?_⟩
      rw [o69 _ (by omega), o29 _ (by omega)]
      exact s4 x hx
  · obtain ⟨u, u1, u2, u3⟩ := r4 x hx
    exact ⟨u, by rw [mN_fr fm (by decide)]; exact u1, by rw [cd_frA fc (by decide) (by decide)]; exact u2, by rw [md_frA fm (by decide)]; exact u3⟩
  · rw [md_frA fm (by decide)] at hp
    obtain ⟨bp, k9, g1, g2, g3, g4⟩ := b4 p hp hpi
    exact ⟨bp, k9, by rw [cd_frA fc (by decide) (by decide)]; exact g1, (o28 p (by omega)).trans g2, g3, g4⟩
theorem c_fieldCount {n : Nat} {c : cd_S} {d mc k : Nat} (hmc : mc ≤ 8) (h74 : cI c 74 0 = nI mc) (hd : d < mc) (h70 : cAr c 70 0 d = nI k) : f_X2_fieldCount n c (nI d) = some (nI k, c) := by
  unfold f_X2_fieldCount
  rw [c_isModule hmc h74 hd, bs_some]
  dsimp only
  rw [if_neg ne10, c_ld70 (by omega), bs_some, h70]
theorem c_addField {n : Nat} {c : cd_S} {d mc k : Nat} {v : Int64} (hmc : mc ≤ 8) (h74 : cI c 74 0 = nI mc) (hd : d < mc) (h70 : cAr c 70 0 d = nI k) (hk : k < 4) : f_X2_addField n c (nI d) v = some (0, cSA (cSL c 69 0 (4 * d + k) v) 70 0 d (nI (k + 1))) := by
  have e1 : nI d * 4 + nI k = nI (4 * d + k) := by rw [show (4 : Int32) = nI 4 from rfl, nI_mul, nI_add, Nat.mul_comm]
  unfold f_X2_addField
  rw [c_isModule hmc h74 hd, bs_some]
  dsimp only
  rw [if_neg ne10, c_ld70 (by omega), bs_some, h70, if_neg (show ¬ (4 : Int32) ≤ nI k from fun y => absurd ((nI_leI (a := 4) (by omega) (by omega)).mp y) (by omega)), bs_some, e1, c_st69 (by omega), bs_some, c_ld70 (by omega), bs_some, cA_SL, h70, nI_1, c_st70 (by omega), bs_some]
