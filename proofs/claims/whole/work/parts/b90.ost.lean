/-! between the units: the readers' state, and how a method begins -/
def OST (c : cd_S) (m : md_S) (mc : Nat) : Prop :=
  (cI c 138 0 = mI m 62 ∧ cI c 66 0 = mI m 35 ∧ cI c 134 0 = 0 ∧ mI m 56 = 0 ∧ mI m 62 = nI (mN m 62) ∧ mN m 62 ≤ 400 ∧ mI m 35 = nI (mN m 35) ∧ mN m 35 ≤ 60 ∧ mI m 63 = 0) ∧
  (∀ i, i < mN m 35 → rsz c (17 + 3 * i) ≤ 3 * (6 * mN m 62 + 15 * mN m 35) ∧ cI c 288 i = nI i) ∧
  (mI m 65 = nI (mN m 65) ∧ mN m 65 ≤ 2 * mN m 62 ∧ mI m 50 = nI (mN m 50) ∧ 2 * mN m 50 ≤ mN m 62 + 8 * mN m 35 ∧ ∀ i, i < mN m 35 → ∃ l, cI c 302 i = nI l ∧ l ≤ mN m 62) ∧
  (∀ i, i < mN m 35 → UR c m i) ∧ (∀ v, v < mN m 50 → VR m v) ∧ NUR c m ∧ NAR c m ∧ AGR c m ∧ (∃ g l, PolQ c m g g l) ∧ MDR c m mc ∧ (∀ i, i < mN m 35 → CL c m [] i) ∧ (∀ i, i < mN m 35 → mA m 36 i = 0 → NR (cJ c 293 i) (mL m 43 i)) ∧ (∀ i, i < mc → ∀ x, x < aN m 30 i → mA m 36 (aN m 31 (12 * i + x)) = 0) ∧ (∀ i, i < mN m 35 → ∃ d, d < mc ∧ mA m 37 i = nI d) ∧ scS c (mN m 35) ≤ 3 * (6 * mN m 62 + 15 * mN m 35)
theorem AN_self {m : md_S} {u a : Nat} (h36 : mA m 36 u = 0) : AN m a u ↔ a = u := by
  constructor
  · rintro ⟨k, k1, k2⟩
    cases k with
    | zero => exact k1.symm
    | succ k => exact absurd h36 (k2 0 (by omega))
  · rintro rfl
    exact ⟨0, rfl, fun j hj => absurd hj (by omega)⟩
theorem ST.meth {c c' : cd_S} {m m' : md_S} {mc u d : Nat} (h : OST c m mc) (hu : mN m 35 = u) (hu60 : u < 60) (hd : cI c 137 0 = nI d) (hd8 : d < 8) (hdm : d < mc) (fc : cd_fr [66, 135, 136, 288, 289, 290, 291, 292, 293, 294, 295, 296, 297, 298, 299, 301, 302, 327, 328, 329, 330] [17 + 3 * u] c c') (fm : md_fr [6, 7, 8, 9, 10, 11, 12, 13, 14, 15, 35, 36, 37, 38, 39, 40, 42, 43, 44, 46, 50, 51, 52, 53, 54, 55] m m') (oc : ∀ f, f ∈ [288, 289, 290, 291, 292, 294, 295, 296, 297, 298, 299, 301, 302] → ∀ i, i ≠ u → cI c' f i = cI c f i) (o293 : ∀ i, i ≠ u → cJ c' 293 i = cJ c 293 i) (om : ∀ f, f ∈ [36, 37, 38, 39, 40, 42, 44, 46, 55] → ∀ i, i ≠ u → mA m' f i = mA m f i) (o43 : ∀ i, i ≠ u → mL m' 43 i = mL m 43 i)
    (h66 : cI c' 66 0 = nI (u + 1)) (h135 : cP c' 135 0 = u + 1) (h136 : cP c' 136 0 = u + 1) (h288 : cI c' 288 u = nI u) (h289 : cI c' 289 u = 0) (h290 : cI c' 290 u = nI d) (h291 : cI c' 291 u = cAr c 101 0 d) (h292 : cI c' 292 u = mA m' 38 u) (h293 : cJ c' 293 u = 0) (h294 : cI c' 294 u = 0) (h295 : cI c' 295 u = nI u) (h296 : cI c' 296 u = -1) (h297 : cI c' 297 u = nI u) (h298 : cI c' 298 u = 1) (h299 : cI c' 299 u = 0) (h301 : cI c' 301 u = 0) (h302 : cI c' 302 u = 0) (hz : rsz c' (17 + 3 * u) = 0)
    (m35 : mI m' 35 = nI (u + 1)) (m36 : mA m' 36 u = 0) (m37 : mA m' 37 u = nI d) (m39 : mA m' 39 u = 0) (m40 : mA m' 40 u = -1) (m44 : mA m' 44 u = 0) (m46 : mA m' 46 u = 0) (m42 : mA m' 42 u = -1) (m55 : mA m' 55 u = nI (mN m 50)) (x50 : mI m' 50 = nI (mN m 50 + 1)) (ho : ∀ v, v < mN m 50 → mA m' 51 v = mA m 51 v ∧ mL m' 52 v = mL m 52 v ∧ mA m' 53 v = mA m 53 v ∧ mA m' 54 v = mA m 54 v) (x51 : mA m' 51 (mN m 50) = nI u) (x53 : mA m' 53 (mN m 50) = 0) (x54 : mA m' 54 (mN m 50) = 0) : ST c' (mSI m' 64 (nI u)) [u] (mc + 96) 15 0 := by
  obtain ⟨⟨p1, p2, p3, p4, p5, p6, p7, p8, p9⟩, r1, ⟨d1, d2, d3, d4, d6⟩, e, f, i1, i2, i3, ⟨gg, ll, i4⟩, i5, i6, i7, -, i9, i10⟩ := h
  have hmc8 := i5.1
  have n35 : mN m' 35 = u + 1 := mN_of m35 (by omega)
  have n50 : mN m' 50 = mN m 50 + 1 := mN_of x50 (by omega)
  obtain ⟨mh, hmh⟩ : ∃ z, z = mSI m' 64 (nI u) := ⟨_, rfl⟩
  rw [← hmh]
  have fmh : md_fr [6, 7, 8, 9, 10, 11, 12, 13, 14, 15, 35, 36, 37, 38, 39, 40, 42, 43, 44, 46, 50, 51, 52, 53, 54, 55, 64] m mh := by
    rw [hmh]
    exact md_fr_SI (md_fr_mono fm (by decide)) (by decide) _
  have hAm : ∀ f i, mA mh f i = mA m' f i := fun f i => by rw [hmh]; rfl
  have hLm : ∀ f i, mL mh f i = mL m' f i := fun f i => by rw [hmh]; rfl
  have hNm : ∀ q, q ≠ 64 → mN mh q = mN m' q := fun q hq => by rw [hmh, mN, mN, mI_SIo hq]
  have hIm : ∀ q, q ≠ 64 → mI mh q = mI m' q := fun q hq => by rw [hmh, mI_SIo hq]
  have x64 : mI mh 64 = nI u := by rw [hmh, mI_SIe]
  have n64 : mN mh 64 = u := mN_of x64 (by omega)
  have hc : ∀ F : List Nat, (∀ f, f ∈ F → f ∉ [66, 135, 136, 288, 289, 290, 291, 292, 293, 294, 295, 296, 297, 298, 299, 301, 302, 327, 328, 329, 330] ∧ f ≠ 193) → CE F c c' := fun F hF => CE.of fc hF
  have hm : ∀ G : List Nat, (∀ f, f ∈ G → f ∉ [6, 7, 8, 9, 10, 11, 12, 13, 14, 15, 35, 36, 37, 38, 39, 40, 42, 43, 44, 46, 50, 51, 52, 53, 54, 55, 64]) → ME G m mh := fun G hG => ME.of fmh hG
  have o : ∀ q, q ∉ [6, 7, 8, 9, 10, 11, 12, 13, 14, 15, 35, 36, 37, 38, 39, 40, 42, 43, 44, 46, 50, 51, 52, 53, 54, 55, 64] → mN mh q = mN m q := fun q hq => mN_fr fmh hq
  have o35 : mN mh 35 = u + 1 := (hNm 35 (by decide)).trans n35
  have o50 : mN mh 50 = mN m 50 + 1 := (hNm 50 (by decide)).trans n50
  have o48 := o 48 (by decide)
  have o56 := o 56 (by decide)
  have o58 := o 58 (by decide)
  have o60 := o 60 (by decide)
  have o62 := o 62 (by decide)
  have o65 := o 65 (by decide)
  have n56 : mN m 56 = 0 := by rw [mN, p4]; rfl
  have A : ∀ f, f ∉ [6, 7, 8, 9, 10, 11, 12, 13, 14, 15, 35, 36, 37, 38, 39, 40, 42, 43, 44, 46, 50, 51, 52, 53, 54, 55, 64] → ∀ i, mA mh f i = mA m f i := fun f hf i => md_frA fmh hf i
  have omh : ∀ f, f ∈ [36, 37, 38, 39, 40, 42, 44, 46, 55] → ∀ i, i ≠ u → mA mh f i = mA m f i := fun f hf i hi => (hAm f i).trans (om f hf i hi)
  have hub : ∀ x, x ≠ u → ub mh x = ub m x := fun x hx => by unfold ub aN; rw [omh 36 (by decide) x hx, omh 39 (by decide) x hx]
  have ubu : ub mh u = 1 := by
    unfold ub aN
    rw [hAm, m36, if_pos rfl, hAm, m39]; rfl
  have how : ∀ v, v < mN m 50 → aN m 51 v < u := fun v hv => by
    obtain ⟨⟨w, w1, w2⟩, -⟩ := f v hv
    rw [aN_of w2 (by omega)]; omega
  have hv4 : ∀ v, v < mN m 50 → mA mh 51 v = mA m 51 v ∧ mL mh 52 v = mL m 52 v ∧ mA mh 53 v = mA m 53 v ∧ mA mh 54 v = mA m 54 v := fun v hv => by
    rw [hAm, hLm, hAm, hAm]; exact ho v hv
  have hvI : ∀ v, v < mN m 50 → vI mh v = vI m v ∧ aN mh 51 v = aN m 51 v := fun v hv => by
    obtain ⟨k1, k2, k3, k4⟩ := hv4 v hv
    have := how v hv
    have e51 : aN mh 51 v = aN m 51 v := by rw [aN, aN, k1]
    have e53 : aN mh 53 v = aN m 53 v := by rw [aN, aN, k3]
    refine ⟨?_, e51⟩
    unfold vI
    rw [e51, e53, k4, hub _ (by omega)]
  have hkv : ∀ v, v < mN m 50 → kv mh v = kv m v := fun v hv => by
    unfold kv
    rw [(hvI v hv).1, (hvI v hv).2]
  have hkn : kv mh (mN m 50) = nI (u * 1024) := by
    have e51 : aN mh 51 (mN m 50) = u := aN_of ((hAm _ _).trans x51) (by omega)
    have e53 : aN mh 53 (mN m 50) = 0 := by rw [aN, hAm, x53]; rfl
    unfold kv vI
    rw [hAm 54, if_pos x54, e51, e53, Nat.zero_add, Nat.add_zero]
  have hkp : KP m mh := ⟨hkv, by omega, by omega, by omega, by omega, by omega, fun i => ⟨md_frA fmh (by decide) i, md_frA fmh (by decide) i⟩, ⟨fun i hi => by rw [aN, aN, omh 44 (by decide) i (by omega)]; exact ⟨Nat.le_refl _, fun x _ => by rw [aN, aN, A 45 (by decide)]⟩, fun v hv => (hvI v hv).2⟩, ⟨⟨by rw [mN_fr fmh (by decide)]; exact Nat.le_refl _, fun q hq => by unfold SP; rw [omh 36 (by decide) q (by omega)]; exact ⟨Iff.rfl, id⟩⟩, fun a _ => md_frA fmh (by decide) a⟩⟩
  have hrL : ∀ i, i ≠ u → rL c' (17 + 3 * i) = rL c (17 + 3 * i) := fun i hi => rL_fr fc (by simp; omega)
  have hrz : ∀ i, i ≠ u → rsz c' (17 + 3 * i) = rsz c (17 + 3 * i) := fun i hi => by rw [rsz, rsz, cd_frz fc (by simp; omega)]
  have k1 : cN c' 138 = mN m 62 := by rw [cN, cd_frI fc (by decide) (by decide), p1]; rfl
  have k2 : cN c' 66 = u + 1 := cN_of h66 (by omega)
  have h36h : mA mh 36 u = 0 := (hAm _ _).trans m36
  have hAN : ∀ a, AN mh a u ↔ a = u := fun a => AN_self h36h
  have hLM : LM mh := fun q hq h3 => by
    by_cases hqu : q = u
    · rw [hqu, h36h] at h3; exact absurd h3 (by decide)
    · rw [omh 36 (by decide) q hqu] at h3
      obtain ⟨a, y1, y2⟩ := i1.2.2.2.2.2 q (by omega) h3
      exact ⟨a, by rw [o 22 (by decide)]; exact y1, by rw [omh 42 (by decide) q hqu]; exact y2⟩
  refine ⟨⟨?_, ?_, ?_, ?_, by
    have e1 : scS c' (u + 1) = scS c u := by
      show scS c' u + rsz c' (17 + 3 * u) = _
      rw [hz, scS_ext (c := c) (c' := c') (fun i hi => hrz i (by omega))]; omega
    rw [k1, k2, e1]
    rw [hu] at i10; omega, trivial, ?_, ?_, ?_⟩, ⟨?_, ?_, ?_, ?_, ?_⟩, ⟨?_, ?_, ?_, ?_, by omega, ?_⟩, ?_, ?_, ?_, ⟨by rw [(hm [58] (by decide)).mN (k := 58) (by decide), cd_frI fc (by decide) (by decide)]; exact i1.1, by rw [(hm [58] (by decide)).mN (k := 58) (by decide), md_frI fmh (by decide)]; exact i1.2.1, by rw [(hm [58] (by decide)).mN (k := 58) (by decide)]; exact Nat.le_trans i1.2.2.1 (by omega), fun i hi => by rw [cd_frA fc (by decide) (by decide), md_frA fmh (by decide)]; exact i1.2.2.2.1 i (by rw [(hm [58] (by decide)).mN (k := 58) (by decide)] at hi; exact hi), i1.2.2.2.2.1.to (hm _ (by decide)) (by omega), hLM⟩, i2.to (hc _ (by decide)) (hm _ (by decide)) (by omega), i3.to (hc _ (by decide)) (hm _ (by decide)), ⟨gg, ll, i4.me (hc _ (by decide)) (hm _ (by decide))⟩, ?_, ?_, ⟨u, h135, ?_, h36h⟩, by omega, ?_⟩
  · rw [k1, cd_frI fc (by decide) (by decide), p1]; exact p5
  · rw [k1]; exact p6
  · rw [k2]; exact h66
  · omega
  · exact ⟨u, by omega, h136⟩
  · exact ⟨u, by omega, h135⟩
  · intro i hi
    rw [k2] at hi ⊢
    rw [k1]
    by_cases hiu : i = u
    · rw [hiu, hz]
      refine ⟨by omega, ⟨u, by omega, h295⟩, ⟨0, by omega, h299⟩, h288⟩
    · obtain ⟨t1, t4⟩ := r1 i (by omega)
      obtain ⟨-, -, -, -, -, -, -, -, -, ⟨q, q1, q2, -⟩, z, -⟩ := e i (by omega)
      rw [hrz i hiu, oc 295 (by decide) i hiu, oc 299 (by decide) i hiu, oc 288 (by decide) i hiu]
      refine ⟨by omega, ?_, ⟨q, q1, q2⟩, t4⟩
      rcases z with ⟨-, -, z, -⟩ | ⟨-, j, j1, -, z⟩
      · exact ⟨i, by omega, z⟩
      · exact ⟨j, by omega, z⟩
  · rw [cd_frI fc (by decide) (by decide), md_frI fmh (by decide)]; exact p1
  · rw [h66, hIm 35 (by decide), m35]
  · rw [cd_frI fc (by decide) (by decide), md_frI fmh (by decide), p3, p4]
  · rw [h136, n64]
  · rw [n64]; exact x64
  · rw [o65, md_frI fmh (by decide)]; exact d1
  · omega
  · rw [o50, hIm 50 (by decide)]; exact x50
  · omega
  · intro i hi
    by_cases hiu : i = u
    · rw [hiu]; exact ⟨0, h302, by omega⟩
    · obtain ⟨l, l1, l2⟩ := d6 i (by omega)
      exact ⟨l, by rw [oc 302 (by decide) i hiu]; exact l1, by omega⟩
  · intro i hi
    by_cases hiu : i = u
    · rw [hiu]
      refine ⟨by rw [h289, hAm, m36], ⟨0, by omega, h36h⟩, by rw [h290, hAm, m37], ⟨d, hd8, (hAm _ _).trans m37⟩, by rw [h292, hAm], by rw [h294, hAm, m39], ⟨0, by omega, (hAm _ _).trans m39⟩, by rw [h296, hAm, m42], ⟨0, (hAm _ _).trans m46, by omega, by rw [h298, ubu]; rfl⟩, ⟨0, by omega, h299, (hAm _ _).trans m44, fun x hx => absurd hx (by omega)⟩, Or.inl ⟨h36h, (hAm _ _).trans m40, h295, mN m 50, by omega, (hAm _ _).trans m55, (hAm _ _).trans x51, (hAm _ _).trans x53, (hAm _ _).trans x54⟩, ⟨d, (hAm _ _).trans m37, hd8, by rw [cd_frA fc (by decide) (by decide)]; exact h291, h297, h301, fun _ => Or.inr h293⟩⟩
    · exact (e i (by omega)).pt (fun f hf => oc f (by revert hf; revert f; decide) i hiu) (o293 i hiu) (fun x => cd_frA fc (by decide) (by decide) i x) (fun d => cd_frA fc (by decide) (by decide) 0 d) (fun f hf => omh f hf i hiu) ((hLm _ _).trans (o43 i hiu)) (fun x _ => A 45 (by decide) _) (fun v hv => ⟨hkv v hv, (hv4 v hv).1, (hv4 v hv).2.2.1, (hv4 v hv).2.2.2⟩) (by omega)
  · intro v hv
    by_cases hv5 : v = mN m 50
    · rw [hv5]
      have e51 : aN mh 51 (mN m 50) = u := aN_of ((hAm _ _).trans x51) (by omega)
      have e53 : aN mh 53 (mN m 50) = 0 := by rw [aN, hAm, x53]; rfl
      refine ⟨⟨u, by omega, (hAm _ _).trans x51⟩, ⟨0, by omega, (hAm _ _).trans x53⟩, ?_, fun v2 hv2 e9 => ?_⟩
      · unfold vI
        rw [hAm 54, if_pos x54, e51, e53, ubu]
        omega
      · rw [hkv v2 hv2, hkn] at e9
        have hw := how v2 hv2
        obtain ⟨⟨w, u1, u2⟩, -, r', -⟩ := f v2 hv2
        rw [aN_of u2 (by omega)] at r' hw
        obtain ⟨-, -, -, -, -, -, ⟨pp, q1, q2⟩, -, ⟨q0, z1, z2, z3⟩, -⟩ := e w (by omega)
        have hu4 : ub m w ≤ 4 := by
          unfold ub
          rw [aN_of q2 (by omega)]
          split <;> omega
        rw [aN_of z1 (by omega)] at r'
        unfold kv at e9
        rw [aN_of u2 (by omega)] at e9
        have e10 := (nI_eq (by omega) (by omega)).mp e9
        omega
    · have hv : v < mN m 50 := by omega
      have hw := how v hv
      obtain ⟨⟨w, u1, u2⟩, qq, r', t'⟩ := f v hv
      obtain ⟨k1', k2', k3', k4'⟩ := hv4 v hv
      have e46 : aN mh 46 (aN m 51 v) = aN m 46 (aN m 51 v) := by
        have : ∀ x, x ≠ u → aN mh 46 x = aN m 46 x := fun x hx => by unfold aN; rw [omh 46 (by decide) x hx]
        exact this _ (by omega)
      refine ⟨⟨w, by omega, k1'.trans u2⟩, by rw [k3']; exact qq, by rw [(hvI v hv).1, (hvI v hv).2, hub _ (by omega), e46]; exact r', fun v2 hv2 => by rw [hkv v2 (by omega), hkv v hv]; exact t' v2 hv2⟩
  · refine ⟨⟨by rw [o56, n56, md_frI fmh (by decide), p4]; rfl, by omega, by rw [n64, cd_frI fc (by decide) (by decide), hd, hAm, m37]⟩, fun i hi => by omega, fun w hw => ?_⟩
    rw [n64, hAN] at hw
    rw [hw]
    have e44 : aN mh 44 u = 0 := by rw [aN, hAm, m44]; rfl
    rw [e44]
    exact ⟨fun x hx => absurd hx (by omega), fun x y _ hy => absurd hy (by omega)⟩
  · have h8 := i5.1
    have : (mc + 96) % 16 = mc := by omega
    rw [this]
    refine ⟨i5.to (hc _ (by decide)) (hm _ (by decide)) (by omega), fun a ha => ?_, fun i hi => ?_⟩
    · rw [List.mem_singleton.mp ha]; omega
    · by_cases hiu : i = u
      · exact ⟨d, hdm, by rw [hiu, hAm, m37]⟩
      · obtain ⟨dd, e1, e2⟩ := i9 i (by omega)
        exact ⟨dd, e1, by rw [omh 37 (by decide) i hiu]; exact e2⟩
  · intro i hi hiO
    have hiu : i ≠ u := fun y => hiO (by rw [y]; simp)
    have hcl := (i6 i (by omega)).cons
    rw [hu] at hcl
    refine hcl.to (hrL i hiu) (oc 302 (by decide) i hiu) (A 41 (by decide) i) hkp (by omega) (by omega) (by omega) (fun r ns n1 n2 _ => ?_) (clk (hm _ (by decide)))
    refine ⟨fun j _ _ => ⟨A 66 (by decide) j, A 67 (by decide) j, A 68 (by decide) j, A 69 (by decide) j, A 70 (by decide) j, fun _ => ⟨A 71 (by decide) j, A 72 (by decide) j⟩⟩, fun q' hq' => ?_⟩
    obtain ⟨t1, t2, t3⟩ := n2 q' hq'
    have h44' : ∀ x, x ≠ u → aN mh 44 x = aN m 44 x := fun x hx => by unfold aN; rw [omh 44 (by decide) x hx]
    exact ⟨h44' q' (by omega), fun x hx => by rw [aN, aN, A 45 (by decide)]⟩
  · rw [n64]; exact (hAN u).mpr rfl
  · intro w hw
    rw [n64, hAN] at hw
    rw [hw]; simp
