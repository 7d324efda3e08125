/-! askings and limits grow -/
theorem ST.pol {c c' : cd_S} {m m' : md_S} {O : List Nat} {mc k kl : Nat} (h : ST c m O mc k kl) (fc : cd_fr [98, 99, 103, 107, 109, 160, 161, 162, 163, 327, 328, 329, 330] [] c c') (fm : md_fr [6, 7, 8, 9, 10, 11, 12, 13, 14, 15, 17, 18, 19, 22, 23, 24, 48, 49, 136] m m') (h7 : mI m' 7 = mI m 7) (hA : AGR c' m') (hP : ∃ g l, PolQ c' m' g g l) (h48 : mN m 48 ≤ mN m' 48) (h22 : mN m 22 ≤ mN m' 22) (h136 : ∀ a, a < mN m 48 → mA m' 136 a = mA m 136 a) : ST c' m' O mc k kl ∧ GR c c' m m' := by
  obtain ⟨-, q35, q50, -⟩ := h.nv
  have hc : ∀ F : List Nat, (∀ f, f ∈ F → f ∉ [98, 99, 103, 107, 109, 160, 161, 162, 163, 327, 328, 329, 330] ∧ f ≠ 193) → CE F c c' := fun F hF => CE.of fc hF
  have hm : ∀ G : List Nat, (∀ f, f ∈ G → f ∉ [6, 7, 8, 9, 10, 11, 12, 13, 14, 15, 17, 18, 19, 22, 23, 24, 48, 49, 136]) → ME G m m' := fun G hG => ME.of fm hG
  have o : ∀ q, q ∉ [6, 7, 8, 9, 10, 11, 12, 13, 14, 15, 17, 18, 19, 22, 23, 24, 48, 49, 136] → mN m' q = mN m q := fun q hq => mN_fr fm hq
  have o35 := o 35 (by decide)
  have o50 := o 50 (by decide)
  have o58 := o 58 (by decide)
  have o60 := o 60 (by decide)
  have o62 := o 62 (by decide)
  have o64 := o 64 (by decide)
  have o65 := o 65 (by decide)
  have hkp : KP m m' := ⟨fun v _ => kv_ME (hm _ (by decide)) v, by omega, by omega, by omega, by omega, h48, fun i => ⟨md_frA fm (by decide) i, md_frA fm (by decide) i⟩, CG.fr fm (by decide), ⟨⟨by rw [mN_fr fm (by decide)]; exact Nat.le_refl _, fun u _ => by unfold SP; rw [md_frA fm (by decide)]; exact ⟨Iff.rfl, id⟩⟩, h136⟩⟩
  have A : ∀ f, f ∉ [6, 7, 8, 9, 10, 11, 12, 13, 14, 15, 17, 18, 19, 22, 23, 24, 48, 49, 136] → ∀ i, mA m' f i = mA m f i := fun f hf i => md_frA fm hf i
  refine ⟨?_, ?_⟩
  · obtain ⟨a1, ⟨b1, b2, b3, b4, b5⟩, ⟨d1, d2, d3, d4, d5, d6⟩, e, f, g, i1, i2, i3, i4, i5, i6, ⟨r, i7, i8, i9⟩, i10, i11⟩ := h
    refine ⟨a1.to (hc _ (by decide)) (fun i _ => cd_frz fc (by simp)), ⟨?_, ?_, ?_, ?_, ?_⟩, ⟨?_, ?_, ?_, ?_, d5, ?_⟩, ?_, ?_, g.to (hc _ (by decide)) (hm _ (by decide)), i1.to2 (hc _ (by decide)) (hm _ (by decide)) (by omega) (fun q hq h3 => by
      rw [md_frA fm (by decide)] at h3
      obtain ⟨a, y1, y2⟩ := i1.2.2.2.2.2 q (by rw [mN_fr fm (by decide)] at hq; exact hq) h3
      exact ⟨a, by omega, by rw [md_frA fm (by decide)]; exact y2⟩), i2.to (hc _ (by decide)) (hm _ (by decide)) (by omega), hA, hP, i5.to (hc _ (by decide)) (hm _ (by decide)) (by omega), ?_, ⟨r, ?_, ?_, ?_⟩, by omega, fun u hu => i11 u (by rw [o64, AN_ME (hm _ (by decide))] at hu; exact hu)⟩
    · rw [cd_frI fc (by decide) (by decide), md_frI fm (by decide)]; exact b1
    · rw [cd_frI fc (by decide) (by decide), md_frI fm (by decide)]; exact b2
    · rw [cd_frI fc (by decide) (by decide), md_frI fm (by decide)]; exact b3
    · rw [cd_frP fc (by decide) (by decide), o64]; exact b4
    · rw [o64, md_frI fm (by decide)]; exact b5
    · rw [o65, md_frI fm (by decide)]; exact d1
    · omega
    · rw [o50, md_frI fm (by decide)]; exact d3
    · omega
    · intro i hi
      obtain ⟨l, l1, l2⟩ := d6 i (by omega)
      exact ⟨l, by rw [cd_frI fc (by decide) (by decide)]; exact l1, by omega⟩
    · exact fun i hi => (e i (by omega)).to (hc _ (by decide)) (hm _ (by decide))
    · exact fun v hv => (f v (by omega)).to (hm _ (by decide)) (by omega)
    · intro i hi hO
      exact (i6 i (by omega) hO).to (rL_fr fc (by simp)) (cd_frI fc (by decide) (by decide) _) (A 41 (by decide) i) hkp q35 (by omega) (by omega) (fun r ns _ _ _ => TK.of (hm _ (by decide)) r ns) (clk (hm _ (by decide)))
    · rw [cd_frP fc (by decide) (by decide)]; exact i7
    · rw [o64, AN_ME (hm _ (by decide))]; exact i8
    · rw [A 36 (by decide)]; exact i9
  · refine ⟨⟨by omega, fun j _ => ⟨A 66 (by decide) j, A 67 (by decide) j, A 68 (by decide) j, A 69 (by decide) j, A 70 (by decide) j, ⟨A 71 (by decide) j, A 72 (by decide) j⟩⟩⟩, hkp, fun i hi => ⟨⟨A 36 (by decide) i, A 37 (by decide) i, A 39 (by decide) i, A 40 (by decide) i, A 41 (by decide) i, A 55 (by decide) i, md_frL fm (by decide) i, cd_frJ fc (by decide) (by decide) i⟩, fun _ => ⟨A 46 (by decide) i, rL_fr fc (by simp), cd_frI fc (by decide) (by decide) i⟩, fun _ => ⟨A 44 (by decide) i, fun x _ => A 45 (by decide) _⟩⟩, fun v _ => ⟨A 51 (by decide) v, md_frL fm (by decide) v, A 53 (by decide) v, A 54 (by decide) v⟩, md_frI fm (by decide), fun i _ => A 57 (by decide) i, md_frI fm (by decide), md_frI fm (by decide), h7, cd_frI fc (by decide) (by decide) 0, cd_frP fc (by decide) (by decide) 0, fun i a1 a2 => ?_, by omega⟩
    omega
theorem ndm48 {m : md_S} {i : Nat} {x k a b : Int32} : ndm (mSI m 48 x) i k a b = mSI (ndm m i k a b) 48 x := by
  unfold ndm mSA mSI
  refine Prod.ext ?_ rfl
  funext j
  show (if j = 65 then nI (i + 1) else if j = 48 then x else m.1 j) = (if j = 48 then x else if j = 65 then nI (i + 1) else m.1 j)
  by_cases h1 : j = 65
  · rw [if_pos h1, if_neg (by omega), if_pos h1]
  · by_cases h2 : j = 48
    · rw [if_neg h1, if_pos h2, if_pos h2]
    · rw [if_neg h1, if_neg h2, if_neg h2, if_neg h1]
theorem c_setAsking {n : Nat} {c : cd_S} {i : Nat} (hn : 100 ≤ n) (hi : i < 24) (h : cI c 109 0 = nI (i + 1)) : ∃ d, f_X3_setAsking n c (nI i) 193 = some (0, d) ∧ Rfr c d (168 + i) ∧ cI d 162 (168 + i) = cI c 162 193 ∧ cI d 163 (168 + i) = cI c 163 193 ∧ cJ d 160 (168 + i) = cJ c 160 193 ∧ ∀ x, x < 5 → cLr d 161 (168 + i) x = cLr c 161 193 x := by
  obtain ⟨d, e1, e2, e3, e4, e5, e6⟩ := c_take (n := n) (c := c) (r := 168 + i) (r2 := 193) hn (by omega)
  refine ⟨d, ?_, e2, e3, e4, e5, e6⟩
  unfold f_X3_setAsking
  rw [if_neg (show ¬ nI i < 0 from nI_nn (by omega)), h, if_neg (show ¬ nI (i + 1) ≤ nI i from fun z => absurd ((nI_leI (by omega) (by omega)).mp z) (by omega)), c_ld102 hi, bs_some, e1, bs_some]
/-- an asking, read: what is there behind setAsking -/
theorem ST.ask {c c' : cd_S} {m m' : md_S} {O : List Nat} {mc k kl i : Nat} (h : ST c m O mc k kl) (hi : mN m 48 = i) (hi24 : i < 24) (fc : cd_fr [98, 99, 103, 107, 109, 160, 161, 162, 163, 327, 328, 329, 330] [] c c') (fm : md_fr [6, 7, 8, 9, 10, 11, 12, 13, 14, 15, 17, 18, 19, 22, 23, 24, 48, 49, 136] m m') (h7 : mI m' 7 = mI m 7) (h109 : cI c' 109 0 = nI (i + 1)) (h48 : mI m' 48 = nI (i + 1)) (hR : ∀ x, x ≠ 193 → x ≠ 168 + i → cI c' 162 x = cI c 162 x ∧ cI c' 163 x = cI c 163 x ∧ cJ c' 160 x = cJ c 160 x ∧ ∀ y, cLr c' 161 x y = cLr c 161 x y) (hX : PX m m' (240 + i)) (h49 : ∀ x, x ≠ i → mL m' 49 x = mL m 49 x) (h136 : ∀ x, x ≠ i → mA m' 136 x = mA m 136 x) (h103 : ∀ x, x ≠ i → cAr c' 103 0 x = cAr c 103 0 x) (hpol : cI c' 106 0 = cI c 106 0 ∧ cI c' 107 0 = cI c 107 0 ∧ (∀ x, cAr c' 98 0 x = cAr c 98 0 x) ∧ (∀ x, cAr c' 99 0 x = cAr c 99 0 x) ∧ mI m' 22 = mI m 22 ∧ (∀ x, mA m' 23 x = mA m 23 x) ∧ ∀ x, mL m' 24 x = mL m 24 x) (hnew : RP c' m' (168 + i) (240 + i) ∧ NR (cJ c' 160 (168 + i)) (mL m' 49 i) ∧ (cI c' 163 (168 + i) = 0 ∧ ∃ a, a ≤ 4 ∧ cI c' 162 (168 + i) = nI a) ∧ (mA m' 136 i = 0 ∨ mA m' 136 i = 1) ∧ cAr c' 103 0 i = mA m' 136 i) : ST c' m' O mc k kl ∧ GR c c' m m' := by
  have n48 : mN m' 48 = i + 1 := mN_of h48 (by omega)
  have hag : AGR c m := by
    obtain ⟨-, -, -, -, -, -, -, -, z, -⟩ := h
    exact z
  obtain ⟨gg, ll, hpq⟩ : ∃ g l, PolQ c m g g l := by
    obtain ⟨-, -, -, -, -, -, -, -, -, z, -⟩ := h
    exact z
  obtain ⟨p1, p2, p3, p4, p5, p6, p7⟩ := hpol
  refine h.pol fc fm h7 ?_ ⟨gg, ll, ?_⟩ (by omega) (by rw [mN, mN, p5]; exact Nat.le_refl _) (fun a ha => h136 a (by omega))
  · obtain ⟨a1, a2, a3, a4⟩ := hag
    refine ⟨by rw [n48]; exact h109, by rw [n48]; exact h48, by omega, fun x hx => ?_⟩
    by_cases hxi : x = i
    · rw [hxi]; exact hnew
    · obtain ⟨⟨a, tl, r1, r2, r3, r4, r5, r6, r7⟩, b2, b3, b4, b5⟩ := a4 x (by omega)
      obtain ⟨s1, s2, s3, s4⟩ := hR (168 + x) (by omega) (by omega)
      obtain ⟨t1, t2, t3⟩ := hX (240 + x) (by omega)
      refine ⟨⟨a, tl, r1, r2, s1.trans r3, s2.trans r4, t1.trans r5, t2.trans r6, fun y hy => by rw [s4, t3 y (by omega)]; exact r7 y hy⟩, by rw [s3, h49 x hxi]; exact b2, ⟨s2.trans b3.1, by rw [s1]; exact b3.2⟩, by rw [h136 x hxi]; exact b4, by rw [h103 x hxi, h136 x hxi]; exact b5⟩
  · exact hpq.to p1 p2 (fun x _ => p3 x) (fun x _ => p4 x) (fun x hx => hR x (by omega) (by omega)) (md_frI fm (by decide)) p5 (fun x h1 h2 => hX x (by omega)) p6 p7
