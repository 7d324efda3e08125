/-! domains, behind reading -/
theorem OST.dom {c c' : cd_S} {m m' : md_S} {mc : Nat} (h : OST c m mc) (fc : cd_fr ([] : List Nat) [] c c') (fm : md_fr [0, 5, 32, 33, 34, 47] m m') : OST c' m' mc := by
  have hc : ∀ F : List Nat, (∀ f, f ∈ F → f ∉ ([] : List Nat) ∧ f ≠ 193) → CE F c c' := fun F hF => CE.of fc hF
  have hm : ∀ G : List Nat, (∀ f, f ∈ G → f ∉ [0, 5, 32, 33, 34, 47]) → ME G m m' := fun G hG => ME.of fm hG
  have o : ∀ q, q ∉ [0, 5, 32, 33, 34, 47] → mN m' q = mN m q := fun q hq => mN_fr fm hq
  have o35 := o 35 (by decide)
  have o50 := o 50 (by decide)
  have o62 := o 62 (by decide)
  have o65 := o 65 (by decide)
  have A : ∀ f, f ∉ [0, 5, 32, 33, 34, 47] → ∀ i, mA m' f i = mA m f i := fun f hf i => md_frA fm hf i
  have I : ∀ f, f ∉ ([] : List Nat) → f ≠ 193 → ∀ i, cI c' f i = cI c f i := fun f h1 h2 i => cd_frI fc h1 h2 i
  obtain ⟨⟨p1, p2, p3, p4, p5, p6, p7, p8, p9⟩, r1, ⟨d1, d2, d3, d4, d6⟩, e, f, i1, i2, i3, ⟨gg, ll, i4⟩, i5, i6, i7, i8, i9, i10⟩ := h
  have e50 : mN m 50 ≤ 500 := by omega
  refine ⟨⟨by rw [I 138 (by decide) (by decide), md_frI fm (by decide)]; exact p1, by rw [I 66 (by decide) (by decide), md_frI fm (by decide)]; exact p2, by rw [I 134 (by decide) (by decide)]; exact p3, by rw [md_frI fm (by decide)]; exact p4, by rw [o62, md_frI fm (by decide)]; exact p5, by omega, by rw [o35, md_frI fm (by decide)]; exact p7, by omega, by rw [md_frI fm (by decide)]; exact p9⟩, fun i hi => ?_, ⟨by rw [o65, md_frI fm (by decide)]; exact d1, by omega, by rw [o50, md_frI fm (by decide)]; exact d3, by omega, fun i hi => ?_⟩, fun i hi => (e i (by omega)).to (hc _ (by decide)) (hm _ (by decide)), fun v hv => (f v (by omega)).to (hm _ (by decide)) (by omega), i1.to (hc _ (by decide)) (hm _ (by decide)) (by omega), i2.to (hc _ (by decide)) (hm _ (by decide)) (by omega), i3.to (hc _ (by decide)) (hm _ (by decide)), ⟨gg, ll, i4.me (hc _ (by decide)) (hm _ (by decide))⟩, i5.to (hc _ (by decide)) (hm _ (by decide)) (by omega), fun i hi => ?_, fun i hi h36 => ?_, fun i hi x hx => ?_, fun i hi => by
    obtain ⟨dd, e1, e2⟩ := i9 i (by omega)
    exact ⟨dd, e1, by rw [A 37 (by decide)]; exact e2⟩, by rw [o35, o62, scS_ext (c := c) (c' := c') (fun i _ => by rw [rsz, rsz, cd_frz fc (by simp)])]; exact i10⟩
  · obtain ⟨t1, t2⟩ := r1 i (by omega)
    have : rsz c' (17 + 3 * i) = rsz c (17 + 3 * i) := by rw [rsz, rsz, cd_frz fc (by simp)]
    exact ⟨by rw [this]; omega, by rw [I 288 (by decide) (by decide)]; exact t2⟩
  · obtain ⟨l, l1, l2⟩ := d6 i (by omega)
    exact ⟨l, by rw [I 302 (by decide) (by decide)]; exact l1, by omega⟩
  · exact (i6 i (by omega)).to (rL_fr fc (by simp)) (I 302 (by decide) (by decide) _) (A 41 (by decide) i) (KP.of (hm _ (by decide))) p8 e50 (by omega) (fun r ns _ _ _ => TK.of (hm _ (by decide)) r ns) (clk (hm _ (by decide)))
  · rw [A 36 (by decide)] at h36
    rw [cd_frJ fc (by decide) (by decide), md_frL fm (by decide)]
    exact i7 i (by omega) h36
  · have e30 : aN m' 30 i = aN m 30 i := by rw [aN, aN, A 30 (by decide)]
    have e31 : aN m' 31 (12 * i + x) = aN m 31 (12 * i + x) := by rw [aN, aN, A 31 (by decide)]
    rw [e30] at hx
    rw [e31, A 36 (by decide)]
    exact i8 i hi x hx
def fbR (c : cd_S) (a tl : Nat) (f : Nat → Int64) : cd_S := cSI (cSI (cSL (cSL (cSL (cSL (cSL c 161 194 0 (f 0)) 161 194 1 (f 1)) 161 194 2 (f 2)) 161 194 3 (f 3)) 161 194 4 (f 4)) 162 194 (nI a)) 163 194 (nI tl)
theorem SLT.rp {m : md_S} {p : Nat} (h : SLT m p) (c : cd_S) : ∃ c', RP c' m 194 p ∧ ∀ r q, r ≠ 194 → RP c m r q → RP c' m r q := by
  obtain ⟨a, tl, f, a1, a2, a3, a4, a5⟩ := h
  refine ⟨fbR c a tl f, ⟨a, tl, a1, a2, ?_, ?_, a3, a4, fun i hi => ?_⟩, fun r q hr h => ?_⟩
  · rw [fbR, cI_SIo (by decide), cI_SIe]
  · rw [fbR, cI_SIe]
  · have : cLr (fbR c a tl f) 161 194 i = f i := by
      rw [fbR, cL_SI, cL_SI]
      have hi5 : i = 0 ∨ i = 1 ∨ i = 2 ∨ i = 3 ∨ i = 4 := by omega
      rcases hi5 with rfl | rfl | rfl | rfl | rfl
      · rw [cL_SLi (by decide), cL_SLi (by decide), cL_SLi (by decide), cL_SLi (by decide), cL_SLe]
      · rw [cL_SLi (by decide), cL_SLi (by decide), cL_SLi (by decide), cL_SLe]
      · rw [cL_SLi (by decide), cL_SLi (by decide), cL_SLe]
      · rw [cL_SLi (by decide), cL_SLe]
      · rw [cL_SLe]
    rw [this]; exact a5 i hi
  · obtain ⟨b, t2, b1, b2, b3, b4, b5, b6, b7⟩ := h
    refine ⟨b, t2, b1, b2, ?_, ?_, b5, b6, fun i hi => ?_⟩
    · rw [fbR, cI_SIo (by decide), cI_SIi hr]; exact b3
    · rw [fbR, cI_SIi hr]; exact b4
    · have : cLr (fbR c a tl f) 161 r i = cLr c 161 r i := by
        rw [fbR, cL_SI, cL_SI]
        simp only [cL_SL, hr, and_false, if_false]
      rw [this]; exact b7 i hi
theorem nd_inj {x : Int32} : ∀ {l : List Int32} {i j : Nat}, l.Nodup → l[i]? = some x → l[j]? = some x → i = j
  | [], i, j, _, h, _ => by simp at h
  | y :: l, 0, 0, _, _, _ => rfl
  | y :: l, 0, j + 1, hn, h1, h2 => by
      have e1 : y = x := by simpa using h1
      have e2 : l[j]? = some x := by simpa using h2
      exact absurd (List.mem_of_getElem? e2) (by rw [← e1]; exact (List.nodup_cons.mp hn).1)
  | y :: l, i + 1, 0, hn, h1, h2 => by
      have e1 : y = x := by simpa using h2
      have e2 : l[i]? = some x := by simpa using h1
      exact absurd (List.mem_of_getElem? e2) (by rw [← e1]; exact (List.nodup_cons.mp hn).1)
  | y :: l, i + 1, j + 1, hn, h1, h2 => by
      have e1 : l[i]? = some x := by simpa using h1
      have e2 : l[j]? = some x := by simpa using h2
      rw [nd_inj (List.nodup_cons.mp hn).2 e1 e2]
theorem dtab_nd (k : Nat → Int32) : ∀ d, (dtab k d).Nodup
  | 0 => List.nodup_nil
  | d + 1 => by
      by_cases h : k d ∈ dtab k d
      · rw [dtab_in h]; exact dtab_nd k d
      · rw [dtab_out h, List.nodup_append]
        refine ⟨dtab_nd k d, by simp, fun a ha b hb e => h ?_⟩
        rw [← List.mem_singleton.mp hb, ← e]; exact ha
theorem dom_ok {n : Nat} {c : cd_S} {m : md_S} {d : Nat} (hn : 5000 ≤ n) (h : MST c m d) : ∃ m', f_X12_findDomains n m = some (0, m') ∧ md_fr [32, 33, 34] m m' ∧ ∃ z, DomR c m' z ∧ ∀ i, i < d → ∃ t, t < z ∧ cAr c 101 0 i = nI t ∧ mA m' 32 i = nI t := by
  obtain ⟨hO, ⟨g, l, hP, hD⟩, hsl⟩ := h
  have hMD := hO.2.2.2.2.2.2.2.2.2.1
  have hd8 : d ≤ 8 := hMD.1
  have hg8 : g ≤ 8 := hP.1
  obtain ⟨m', e1, e2, e3⟩ := fdom_ok (n := n) (k := fun i => mskF m i g) (g := g) hn hd8 hMD.2.2.1 (fun x hx m1 hm1 => by
    obtain ⟨c', r1, r2⟩ := (hsl x hx).rp c
    have hME : ME [17, 18, 19] m m1 := ME.of hm1 (by decide)
    have := m_mskL (n := n) (c := c') (m := m1) (r := 194) (d := x) (g := g) hn (by omega) hg8 (by rw [md_frI hm1 (by decide)]; exact hP.2.2.2.2.1) (fun i hi => (r2 i (8 + i) (by omega) (hP.2.2.2.2.2.2.2.1 i hi).1).to (CE.refl _ _) hME) (r1.to (CE.refl _ _) hME) g n 0 (by omega) (by omega)
    have hS : ∀ y, SS m m1 y := fun y => ⟨md_frA hm1 (by decide) y, md_frA hm1 (by decide) y, fun _ _ => md_frL hm1 (by decide) _⟩
    rw [mskF_ss (fun y _ => hS _) (hS x) g hg8] at this
    exact this)
  have hlen := dtab_len (fun i => mskF m i g) d
  refine ⟨m', e1, e2, _, ⟨by omega, hD.1, e3.1, fun t ht => Option.some.inj ((hD.2.1 t ht).symm.trans (e3.2.1 t ht))⟩, fun i hi => ?_⟩
  obtain ⟨t, t1, t2, t3⟩ := hD.2.2 i hi
  obtain ⟨s, s1, s2, s3⟩ := e3.2.2 i hi
  have : t = s := nd_inj (dtab_nd _ d) t3 s3
  exact ⟨t, t1, t2, by rw [this]; exact s2⟩
