/-! single steps of both readers -/
theorem GL.unit {m : md_S} {u f : Nat} (ih : ∀ {i l0 l1 : Nat} {es : List EN} {ns : List Nat}, Gen m u f i l0 l1 es ns → ∀ j, j ∈ ns → j < 900 → mA m 67 j = nI u) : ∀ {ch : List Nat} {l0 l1 : Nat} {ess : List (List EN)} {ns : List Nat}, GL (Gen m u f) ch l0 l1 ess ns → ∀ j, j ∈ ns → j < 900 → mA m 67 j = nI u
  | [], _, _, _, _, ⟨_, _, h⟩, j, hj, _ => by rw [h] at hj; exact absurd hj (by simp)
  | x :: xs, _, _, _, _, ⟨la, es, rest, n1, n2, h1, h2, h3, h4⟩, j, hj, h9 => by
      rw [h4] at hj
      rcases List.mem_append.mp hj with hj | hj
      · exact ih h1 j hj h9
      · exact GL.unit ih h2 j hj h9
theorem Gen.unit {m : md_S} {u : Nat} : ∀ {f : Nat} {i l0 l1 : Nat} {es : List EN} {ns : List Nat}, Gen m u f i l0 l1 es ns → ∀ j, j ∈ ns → j < 900 → mA m 67 j = nI u
  | 0, _, _, _, _, _, h, _, _, _ => h.elim
  | f + 1, i, l0, l1, es, ns, ⟨h1, h2, ch, ess, n1, h3, h4, h5, h6, h7⟩, j, hj, h9 => by
      rw [h6] at hj
      rcases List.mem_cons.mp hj with rfl | hj
      · exact h1
      · rcases List.mem_append.mp hj with hj | hj
        · unfold um at hj
          split at hj
          · rw [List.mem_singleton.mp hj] at h9; omega
          · exact absurd hj (by simp)
        · exact GL.unit (fun g => Gen.unit g) h4 j hj h9
theorem cN_SIo {c : cd_S} {f g i : Nat} {v : Int32} (h : f ≠ g) : cN (cSI c g i v) f = cN c f := by rw [cN, cN, cI_SIo h]
/-- a part -/
theorem ST.part {c : cd_S} {m : md_S} {O : List Nat} {mc k kl : Nat} (h : ST c m O mc k (kl + 1)) (hp : mN m 62 < 400) : ST (cSI c 138 0 (nI (mN m 62 + 1))) (mSI m 62 (nI (mN m 62 + 1))) O mc (k + 6) kl ∧ mN m 65 + 1 ≤ 2 * (mN m 62 + 1) + kl := by
  obtain ⟨-, hn35, hn50, -, c1, c2, -⟩ := h.nv
  obtain ⟨⟨x1, x2, x3, x4, x5, x6, x7, x8, x9⟩, ⟨b1, b2, b3, b4, b5⟩, ⟨d1, d2, d3, d4, d5, d6⟩, e, f, g, i1, i2, i3, ⟨gg, ll, i4⟩, i5, i6, ⟨r, i7, i8, i9⟩, i10, i11⟩ := h
  have fc : cd_fr [138] [] c (cSI c 138 0 (nI (mN m 62 + 1))) := cd_fr_SI (cd_fr_refl _ _ _) (by decide) (by decide) _ _
  have fm : md_fr [62] m (mSI m 62 (nI (mN m 62 + 1))) := md_fr_SI (md_fr_refl _ _) (by decide) _
  have n62 : mN (mSI m 62 (nI (mN m 62 + 1))) 62 = mN m 62 + 1 := mN_of mI_SIe (by omega)
  have n138 : cN (cSI c 138 0 (nI (mN m 62 + 1))) 138 = mN m 62 + 1 := cN_of cI_SIe (by omega)
  have o : ∀ q, q ≠ 62 → mN (mSI m 62 (nI (mN m 62 + 1))) q = mN m q := fun q hq => mN_fr fm (by simpa using hq)
  have hc : ∀ F : List Nat, (∀ f, f ∈ F → f ∉ [138] ∧ f ≠ 193) → CE F c (cSI c 138 0 (nI (mN m 62 + 1))) := fun F hF => CE.of fc hF
  have hm : ∀ G : List Nat, (∀ f, f ∈ G → f ∉ [62]) → ME G m (mSI m 62 (nI (mN m 62 + 1))) := fun G hG => ME.of fm hG
  have o35 := o 35 (by decide)
  have o50 := o 50 (by decide)
  have o64 := o 64 (by decide)
  have o65 := o 65 (by decide)
  refine ⟨⟨⟨?_, ?_, ?_, ?_, ?_, ?_, ?_, ?_, ?_⟩, ⟨?_, ?_, ?_, ?_, ?_⟩, ⟨?_, ?_, ?_, ?_, by omega, ?_⟩, ?_, ?_, g.to (hc _ (by decide)) (hm _ (by decide)), i1.to (hc _ (by decide)) (hm _ (by decide)) (by omega), i2.to (hc _ (by decide)) (hm _ (by decide)) (by omega), i3.to (hc _ (by decide)) (hm _ (by decide)), ⟨gg, ll, i4.me (hc _ (by decide)) (hm _ (by decide))⟩, i5.to (hc _ (by decide)) (hm _ (by decide)) (by omega), ?_, ⟨r, ?_, ?_, ?_⟩, by omega, fun u hu => i11 u (by rw [o64, AN_ME (hm _ (by decide))] at hu; exact hu)⟩, by omega⟩
  · rw [n138, cI_SIe]
  · rw [n138]; omega
  · rw [cN_SIo (by decide), cI_SIo (by decide)]; exact x3
  · rw [cN_SIo (by decide)]; exact x4
  · rw [cN_SIo (by decide), n138, scS_ext (c := c) (c' := cSI c 138 0 (nI (mN m 62 + 1))) (fun i _ => by rw [rsz, rsz, cI_SIo (by decide)])]
    omega
  · trivial
  · rw [cN_SIo (by decide)]; exact x7
  · rw [cN_SIo (by decide)]; exact x8
  · intro i hi
    rw [cN_SIo (show 66 ≠ 138 by decide)] at hi ⊢
    rw [n138, cI_SIo (by decide), cI_SIo (by decide), cI_SIo (by decide)]
    obtain ⟨y1, y2⟩ := x9 i hi
    refine ⟨?_, y2⟩
    have : rsz (cSI c 138 0 (nI (mN m 62 + 1))) (17 + 3 * i) = rsz c (17 + 3 * i) := by rw [rsz, rsz, cI_SIo (by decide)]
    rw [this]; omega
  · rw [cI_SIe, mI_SIe]
  · rw [cI_SIo (by decide), mI_SIo (by decide)]; exact b2
  · rw [cI_SIo (by decide), mI_SIo (by decide)]; exact b3
  · rw [o64]; exact b4
  · rw [o64, mI_SIo (by decide)]; exact b5
  · rw [o65, mI_SIo (by decide)]; exact d1
  · omega
  · rw [o50, mI_SIo (by decide)]; exact d3
  · omega
  · intro i hi
    obtain ⟨l, l1, l2⟩ := d6 i (by omega)
    exact ⟨l, by rw [cI_SIo (by decide)]; exact l1, by omega⟩
  · exact fun i hi => (e i (by omega)).to (hc _ (by decide)) (hm _ (by decide))
  · exact fun v hv => (f v (by omega)).to (hm _ (by decide)) (by omega)
  · intro i hi hO
    exact (i6 i (by omega) hO).to (rL_SI (by decide)) (cI_SIo (by decide)) rfl (KP.of (hm _ (by decide))) hn35 (by omega) (by omega) (fun r ns _ _ _ => TK.of (hm _ (by decide)) r ns) (clk (hm _ (by decide)))
  · exact i7
  · rw [o64, AN_ME (hm _ (by decide))]; exact i8
  · exact i9
/-- changes of the tree of the unit at work -/
theorem ST.tree {c : cd_S} {m m' : md_S} {O : List Nat} {mc k kl : Nat} (h : ST c m O mc k kl) (hm' : md_fr [65, 66, 67, 68, 69, 70, 71, 72, 73] m m') (h65 : mI m' 65 = nI (mN m' 65)) (hle : mN m 65 ≤ mN m' 65) (hb : mN m' 65 ≤ 2 * mN m 62 + kl) (ht : ∀ j, j < mN m 65 → mA m 67 j ≠ nI (mN m 64) → mA m' 66 j = mA m 66 j ∧ mA m' 67 j = mA m 67 j ∧ mA m' 68 j = mA m 68 j ∧ mA m' 69 j = mA m 69 j ∧ mA m' 70 j = mA m 70 j ∧ S7 m m' j) (h67 : ∀ j, j < mN m' 65 → mA m' 67 j = (if j < mN m 65 then mA m 67 j else nI (mN m 64))) : ST c m' O mc k kl := by
  obtain ⟨-, hn35, hn50, -, c1, c2, -⟩ := h.nv
  obtain ⟨a1, ⟨b1, b2, b3, b4, b5⟩, ⟨d1, d2, d3, d4, d5, d6⟩, e, f, g, i1, i2, i3, ⟨gg, ll, i4⟩, i5, i6, ⟨r, i7, i8, i9⟩, i10, i11⟩ := h
  have hm : ∀ G : List Nat, (∀ f, f ∈ G → f ∉ [65, 66, 67, 68, 69, 70, 71, 72, 73]) → ME G m m' := fun G hG => ME.of hm' hG
  have hc : ∀ F : List Nat, CE F c c := fun F => CE.refl F c
  have o : ∀ q, q ∉ [65, 66, 67, 68, 69, 70, 71, 72, 73] → mN m' q = mN m q := fun q hq => mN_fr hm' hq
  have o35 := o 35 (by decide)
  have o50 := o 50 (by decide)
  have o62 := o 62 (by decide)
  have o64 := o 64 (by decide)
  refine ⟨a1, ⟨?_, ?_, ?_, ?_, ?_⟩, ⟨h65, ?_, ?_, ?_, d5, ?_⟩, ?_, ?_, g.to (hc _) (hm _ (by decide)), ⟨by rw [o 58 (by decide)]; exact i1.1, by rw [o 58 (by decide), md_frI hm' (by decide)]; exact i1.2.1, by rw [o 58 (by decide), o62]; exact i1.2.2.1, fun i hi => by rw [md_frA hm' (by decide)]; exact i1.2.2.2.1 i (by rw [o 58 (by decide)] at hi; exact hi), fun j hj => by
    rw [h67 j hj, o35]
    by_cases hj6 : j < mN m 65
    · rw [if_pos hj6]; exact i1.2.2.2.2.1 j hj6
    · rw [if_neg hj6]; exact ⟨mN m 64, i10, rfl⟩, i1.2.2.2.2.2.to (hm _ (by decide))⟩, i2.to (hc _) (hm _ (by decide)) (by omega), i3.to (hc _) (hm _ (by decide)), ⟨gg, ll, i4.me (hc _) (hm _ (by decide))⟩, i5.to (hc _) (hm _ (by decide)) (by omega), ?_, ⟨r, i7, ?_, ?_⟩, by omega, fun u hu => i11 u (by rw [o64, AN_ME (hm _ (by decide))] at hu; exact hu)⟩
  · rw [md_frI hm' (by decide)]; exact b1
  · rw [md_frI hm' (by decide)]; exact b2
  · rw [md_frI hm' (by decide)]; exact b3
  · rw [o64]; exact b4
  · rw [o64, md_frI hm' (by decide)]; exact b5
  · omega
  · rw [o50, md_frI hm' (by decide)]; exact d3
  · omega
  · intro i hi
    obtain ⟨l, l1, l2⟩ := d6 i (by omega)
    exact ⟨l, l1, by omega⟩
  · exact fun i hi => (e i (by omega)).to (hc _) (hm _ (by decide))
  · exact fun v hv => (f v (by omega)).to (hm _ (by decide)) (by omega)
  · intro i hi hiO
    have hne : i ≠ mN m 64 := fun q => hiO (by rw [q]; exact i11 _ ⟨0, rfl, fun j hj => absurd hj (by omega)⟩)
    refine (i6 i (by omega) hiO).to rfl rfl (md_frA hm' (by decide) _) (KP.of (hm _ (by decide))) hn35 (by omega) hle (fun r ns n1 n2 n3 => ?_) (fun j hj h => ?_)
    · obtain ⟨f, l, es, hg⟩ := n3
      refine ⟨fun j hj h9 => ?_, fun q _ => ⟨by rw [aN, aN, md_frA hm' (by decide)], fun x _ => by rw [aN, aN, md_frA hm' (by decide)]⟩⟩
      have hu := hg.unit j hj h9
      obtain ⟨y1, y2, y3, y4, y5, y6⟩ := ht j (n1 j hj h9) (by rw [hu]; exact fun q => hne ((nI_eq (by omega) (by omega)).mp q))
      exact ⟨y1, y2, y3, y4, y5, fun _ => y6⟩
    · rw [h67 j hj] at h
      by_cases hj6 : j < mN m 65
      · rw [if_pos hj6] at h; exact ⟨hj6, h⟩
      · rw [if_neg hj6] at h
        exact absurd ((nI_eq (by omega) (by omega)).mp h).symm hne
  · rw [o64, AN_ME (hm _ (by decide))]; exact i8
  · rw [md_frA hm' (by decide)]; exact i9
/-- a script entry for the unit at work -/
theorem ST.emit {c : cd_S} {m : md_S} {O : List Nat} {mc k kl : Nat} {x y z : Int32} (h : ST c m O mc (k + 1) kl) : ST (em c (mN m 64) x y z) m O mc k kl := by
  obtain ⟨hp, hn35, hn50, -, c1, c2, -⟩ := h.nv
  obtain ⟨⟨x1, x2, x3, x4, x5, x6, x7, x8, x9⟩, ⟨b1, b2, b3, b4, b5⟩, ⟨d1, d2, d3, d4, d5, d6⟩, e, f, g, i1, i2, i3, ⟨gg, ll, i4⟩, i5, i6, ⟨r, i7, i8, i9⟩, i10, i11⟩ := h
  have fe := em_fr c (mN m 64) x y z
  have hc : ∀ F : List Nat, (∀ f, f ∈ F → f ∉ ([] : List Nat) ∧ f ≠ 193) → CE F c (em c (mN m 64) x y z) := fun F hF => CE.of fe hF
  have hm : ∀ G : List Nat, ME G m m := fun G => ME.refl G m
  have q1 : cN (em c (mN m 64) x y z) 138 = cN c 138 := by rw [cN, cN, em_I (by decide)]
  have q2 : cN (em c (mN m 64) x y z) 66 = cN c 66 := by rw [cN, cN, em_I (by decide)]
  have q3 : cN (em c (mN m 64) x y z) 134 = cN c 134 := by rw [cN, cN, em_I (by decide)]
  refine ⟨⟨?_, ?_, ?_, ?_, ?_, ?_, ?_, ?_, ?_⟩, ⟨?_, ?_, ?_, ?_, b5⟩, ⟨d1, d2, d3, d4, d5, ?_⟩, ?_, f, g.to (hc _ (by decide)) (hm _), i1.to (hc _ (by decide)) (hm _) (by omega), i2.to (hc _ (by decide)) (hm _) (by omega), i3.to (hc _ (by decide)) (hm _), ⟨gg, ll, i4.me (hc _ (by decide)) (hm _)⟩, i5.to (hc _ (by decide)) (hm _) (by omega), ?_, ⟨r, ?_, i8, i9⟩, i10, i11⟩
  · rw [q1, em_I (by decide)]; exact x1
  · rw [q1]; exact x2
  · rw [q2, em_I (by decide)]; exact x3
  · rw [q2]; exact x4
  · rw [q1, q2, scS_em (by omega) (em_sz (by have := (x9 (mN m 64) (by omega)).1; omega))]; omega
  · trivial
  · rw [q2, em_P (by decide)]; exact x7
  · rw [q2, em_P (by decide)]; exact x8
  · intro i hi
    rw [q2] at hi ⊢
    rw [q1, em_I (by decide), em_I (by decide), em_I (by decide)]
    obtain ⟨y1, y2⟩ := x9 i hi
    refine ⟨?_, y2⟩
    by_cases hu : i = mN m 64
    · rw [hu] at y1 ⊢
      rw [em_sz (by omega)]; omega
    · rw [em_szo (by omega)]; omega
  · rw [em_I (by decide)]; exact b1
  · rw [em_I (by decide)]; exact b2
  · rw [em_I (by decide)]; exact b3
  · rw [em_P (by decide)]; exact b4
  · intro i hi
    obtain ⟨l, l1, l2⟩ := d6 i hi
    exact ⟨l, by rw [em_I (by decide)]; exact l1, l2⟩
  · exact fun i hi => (e i hi).to (hc _ (by decide)) (hm _)
  · intro i hi hiO
    have hne : i ≠ mN m 64 := fun q => hiO (by rw [q]; exact i11 _ ⟨0, rfl, fun j hj => absurd hj (by omega)⟩)
    exact (i6 i hi hiO).to (em_Lo (by omega)) (em_I (by decide)) rfl (KP.refl m) hn35 (by omega) (Nat.le_refl _) (fun r ns _ _ _ => TK.of (hm _) r ns) (clk (hm _))
  · rw [em_P (by decide)]; exact i7
/-- a label for the unit at work -/
theorem ST.label {c : cd_S} {m : md_S} {O : List Nat} {mc k kl l : Nat} (h : ST c m O mc k kl) (hl : l ≤ mN m 62 + kl) : ST (cSI c 302 (mN m 64) (nI l)) m O mc k kl := by
  obtain ⟨hp, hn35, hn50, -, c1, c2, -⟩ := h.nv
  obtain ⟨a1, ⟨b1, b2, b3, b4, b5⟩, ⟨d1, d2, d3, d4, d5, d6⟩, e, f, g, i1, i2, i3, ⟨gg, ll, i4⟩, i5, i6, ⟨r, i7, i8, i9⟩, i10, i11⟩ := h
  have fe : cd_fr [302] [] c (cSI c 302 (mN m 64) (nI l)) := cd_fr_SI (cd_fr_refl _ _ _) (by decide) (by decide) _ _
  have hc : ∀ F : List Nat, (∀ f, f ∈ F → f ∉ [302] ∧ f ≠ 193) → CE F c (cSI c 302 (mN m 64) (nI l)) := fun F hF => CE.of fe hF
  have hm : ∀ G : List Nat, ME G m m := fun G => ME.refl G m
  refine ⟨a1.to (hc _ (by decide)) (fun i _ => cI_SIo (by decide)), ⟨b1, b2, b3, b4, b5⟩, ⟨d1, d2, d3, d4, d5, ?_⟩, ?_, f, g.to (hc _ (by decide)) (hm _), i1.to (hc _ (by decide)) (hm _) (by omega), i2.to (hc _ (by decide)) (hm _) (by omega), i3.to (hc _ (by decide)) (hm _), ⟨gg, ll, i4.me (hc _ (by decide)) (hm _)⟩, i5.to (hc _ (by decide)) (hm _) (by omega), ?_, ⟨r, i7, i8, i9⟩, i10, i11⟩
  · intro i hi
    by_cases hu : i = mN m 64
    · rw [hu]; exact ⟨l, cI_SIe, hl⟩
    · obtain ⟨l', l1, l2⟩ := d6 i hi
      exact ⟨l', by rw [cI_SIi hu]; exact l1, l2⟩
  · exact fun i hi => (e i hi).to (hc _ (by decide)) (hm _)
  · intro i hi hiO
    have hne : i ≠ mN m 64 := fun q => hiO (by rw [q]; exact i11 _ ⟨0, rfl, fun j hj => absurd hj (by omega)⟩)
    exact (i6 i hi hiO).to (rL_SI (by decide)) (cI_SIi hne) rfl (KP.refl m) hn35 (by omega) (Nat.le_refl _) (fun r ns _ _ _ => TK.of (hm _) r ns) (clk (hm _))
