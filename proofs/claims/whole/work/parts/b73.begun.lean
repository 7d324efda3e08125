/-! a unit is begun -/
theorem UR.pt {c c' : cd_S} {m m' : md_S} {i : Nat} (h : UR c m i) (hci : ∀ f, f ∈ [289, 290, 291, 292, 294, 295, 296, 297, 298, 299, 301] → cI c' f i = cI c f i) (h293 : cJ c' 293 i = cJ c 293 i) (h300 : ∀ x, cAr c' 300 i x = cAr c 300 i x) (h101 : ∀ d, cAr c' 101 0 d = cAr c 101 0 d) (hmi : ∀ f, f ∈ [36, 37, 38, 39, 40, 42, 44, 46, 55] → mA m' f i = mA m f i) (h43 : mL m' 43 i = mL m 43 i) (h45 : ∀ x, x < 16 → mA m' 45 (16 * i + x) = mA m 45 (16 * i + x)) (hv : ∀ v, v < mN m 50 → kv m' v = kv m v ∧ mA m' 51 v = mA m 51 v ∧ mA m' 53 v = mA m 53 v ∧ mA m' 54 v = mA m 54 v) (h50 : mN m 50 ≤ mN m' 50) : UR c' m' i := by
  have u : ub m' i = ub m i := by unfold ub aN; rw [hmi 36 (by decide), hmi 39 (by decide)]
  obtain ⟨a1, a2, a3, a4, a5, a6, a7, a8, ⟨q0, z1, z2, z3⟩, ⟨q, q1, q2, q3, q4⟩, a11, ⟨d, d1, d2, d3, d4, d5, d6⟩⟩ := h
  unfold UR
  rw [u, hci 289 (by decide), hci 290 (by decide), hci 291 (by decide), hci 292 (by decide), hci 294 (by decide), hci 295 (by decide), hci 296 (by decide), hci 297 (by decide), hci 298 (by decide), hci 299 (by decide), hci 301 (by decide), h293, h43, hmi 36 (by decide), hmi 37 (by decide), hmi 38 (by decide), hmi 39 (by decide), hmi 40 (by decide), hmi 42 (by decide), hmi 44 (by decide), hmi 46 (by decide), hmi 55 (by decide)]
  refine ⟨a1, a2, a3, a4, a5, a6, a7, a8, ⟨q0, z1, by omega, z3⟩, ⟨q, q1, q2, q3, fun x hx => ?_⟩, ?_, ⟨d, d1, d2, by rw [h101]; exact d3, d4, d5, d6⟩⟩
  · obtain ⟨v, v1, v2, v3, v4⟩ := q4 x hx
    obtain ⟨k1, k2, k3, k4⟩ := hv v v1
    exact ⟨v, by omega, by rw [h45 x (by omega)]; exact v2, by rw [h300, k1]; exact v3, by rw [aN, k2]; exact v4⟩
  · rcases a11 with ⟨b1, b2, b3, v, v1, v2, v3, v4, v5⟩ | b
    · obtain ⟨k1, k2, k3, k4⟩ := hv v v1
      exact Or.inl ⟨b1, b2, b3, v, by omega, v2, k2.trans v3, k3.trans v4, k4.trans v5⟩
    · exact Or.inr b
theorem UR.cvu {c : cd_S} {m : md_S} {u : Nat} (h : UR c m u) (h50 : mN m 50 ≤ 500) : ∀ x, x < aN m 44 u → aN m 45 (16 * u + x) < mN m 50 := by
  intro x hx
  obtain ⟨-, -, -, -, -, -, -, -, -, ⟨q, q1, q2, q3, q4⟩, -⟩ := h
  rw [aN_of q3 (by omega)] at hx
  obtain ⟨v, v1, v2, v3, v4⟩ := q4 x hx
  rw [aN_of v2 (by omega)]; exact v1
theorem UR.parl {c : cd_S} {m : md_S} {u : Nat} (h : UR c m u) (hu : u < 60) (h0 : mA m 36 u ≠ 0) : aN m 40 u < u := by
  obtain ⟨-, -, -, -, -, -, -, -, -, -, z, -⟩ := h
  rcases z with ⟨z, -⟩ | ⟨-, j, j1, j2, -⟩
  · exact absurd z h0
  · rw [aN_of j2 (by omega)]; exact j1
theorem PC.beg {m m' : md_S} {u : Nat} (hp : PC m) (hu : mN m 35 = u) (fm : md_fr [35, 36, 37, 38, 39, 40, 42, 43, 44, 46, 55] m m') (om : ∀ f, f ∈ [36, 40, 44] → ∀ i, i ≠ u → mA m' f i = mA m f i) (n35 : mN m' 35 = u + 1) (m44 : mA m' 44 u = 0) (hpar : ∀ i, i < u → mA m 36 i ≠ 0 → aN m 40 i < i) : PC m' := by
  intro q hq h0 x hx
  by_cases hqu : q = u
  · rw [hqu, aN, m44] at hx
    exact absurd hx (Nat.not_lt_zero _)
  · rw [om 36 (by decide) q hqu] at h0
    have e40 : aN m' 40 q = aN m 40 q := by rw [aN, aN, om 40 (by decide) q hqu]
    have e44 : ∀ i, i ≠ u → aN m' 44 i = aN m 44 i := fun i hi => by rw [aN, aN, om 44 (by decide) i hi]
    have e45 : ∀ i, aN m' 45 i = aN m 45 i := fun i => by rw [aN, aN, md_frA fm (by decide)]
    have e51 : ∀ i, aN m' 51 i = aN m 51 i := fun i => by rw [aN, aN, md_frA fm (by decide)]
    rw [e44 q hqu] at hx
    have hpl := hpar q (by omega) h0
    rw [e40, e45]
    rcases hp q (by omega) h0 x hx with z | ⟨y, y1, y2⟩
    · exact Or.inl ((e51 _).trans z)
    · exact Or.inr ⟨y, by rw [e44 _ (by omega)]; exact y1, by rw [e45]; exact y2⟩
theorem CL.cons {c : cd_S} {m : md_S} {O : List Nat} {i : Nat} (h : CL c m O i) : CL c m (mN m 35 :: O) i := by
  obtain ⟨f, r, es, l, ns, a1, a2, a3, a4, a5, a6, a7, a8, a9⟩ := h
  refine ⟨f, r, es, l, ns, a1, a2, a3, a4, a5, fun q hq => ⟨(a6 q hq).1, (a6 q hq).2.1, fun y => ?_⟩, a7, a8, a9⟩
  rcases List.mem_cons.mp y with y | y
  · have := (a6 q hq).2.1; omega
  · exact (a6 q hq).2.2 y
theorem ST.begun {c c' : cd_S} {m m' : md_S} {O : List Nat} {mc k kl u s : Nat} (h : ST c m O mc k kl) (hu : mN m 35 = u) (hu60 : u < 60) (hs0 : 1 ≤ s) (hs4 : s ≤ 4) (fc : cd_fr [66, 288, 289, 290, 291, 292, 293, 294, 295, 296, 297, 298, 299, 301, 302] [17 + 3 * u] c c') (fm : md_fr [35, 36, 37, 38, 39, 40, 42, 43, 44, 46, 55] m m') (oc : ∀ f, f ∈ [288, 289, 290, 291, 292, 294, 295, 296, 297, 298, 299, 301, 302] → ∀ i, i ≠ u → cI c' f i = cI c f i) (o293 : ∀ i, i ≠ u → cJ c' 293 i = cJ c 293 i) (om : ∀ f, f ∈ [36, 37, 38, 39, 40, 42, 44, 46, 55] → ∀ i, i ≠ u → mA m' f i = mA m f i) (o43 : ∀ i, i ≠ u → mL m' 43 i = mL m 43 i)
    (h66 : cI c' 66 0 = nI (u + 1)) (h288 : cI c' 288 u = nI u) (h289 : cI c' 289 u = nI s) (h290 : cI c' 290 u = cI c 137 0) (h291 : ∀ d, cI c 137 0 = nI d → d < 8 → cI c' 291 u = cAr c 101 0 d) (h292 : cI c' 292 u = mA m' 38 u) (h294 : cI c' 294 u = 0) (h295 : cI c' 295 u = nI (mN m 64)) (h296 : cI c' 296 u = -1) (h297 : cI c' 297 u = nI u) (h298 : cI c' 298 u = 0) (h299 : cI c' 299 u = 0) (h301 : cI c' 301 u = 0) (h302 : cI c' 302 u = 0) (hz : rsz c' (17 + 3 * u) = 0)
    (m35 : mI m' 35 = nI (u + 1)) (m36 : mA m' 36 u = nI s) (m37 : mA m' 37 u = mA m 37 (mN m 64)) (m39 : mA m' 39 u = 0) (m40 : mA m' 40 u = nI (mN m 64)) (m44 : mA m' 44 u = 0) (m46 : mA m' 46 u = 0) (m42 : mA m' 42 u = -1) (hs3 : s ≠ 3) : ST c' m' (u :: O) mc (k + 15) kl ∧ GR c c' m m' := by
  obtain ⟨q62, q35, q50, q65, c138, c66, -⟩ := h.nv
  have hnow := h.now
  have hanle := h.anle
  have hpar := ST.par h
  have hvr := h.vr
  have hsc := h.sc
  have n35 : mN m' 35 = u + 1 := mN_of m35 (by omega)
  have hc : ∀ F : List Nat, (∀ f, f ∈ F → f ∉ [66, 288, 289, 290, 291, 292, 293, 294, 295, 296, 297, 298, 299, 301, 302] ∧ f ≠ 193) → CE F c c' := fun F hF => CE.of fc hF
  have hm : ∀ G : List Nat, (∀ f, f ∈ G → f ∉ [35, 36, 37, 38, 39, 40, 42, 43, 44, 46, 55]) → ME G m m' := fun G hG => ME.of fm hG
  have o : ∀ q, q ∉ [35, 36, 37, 38, 39, 40, 42, 43, 44, 46, 55] → mN m' q = mN m q := fun q hq => mN_fr fm hq
  have o48 := o 48 (by decide)
  have o50 := o 50 (by decide)
  have o56 := o 56 (by decide)
  have o58 := o 58 (by decide)
  have o60 := o 60 (by decide)
  have o62 := o 62 (by decide)
  have o64 := o 64 (by decide)
  have o65 := o 65 (by decide)
  have A : ∀ f, f ∉ [35, 36, 37, 38, 39, 40, 42, 43, 44, 46, 55] → ∀ i, mA m' f i = mA m f i := fun f hf i => md_frA fm hf i
  have hub : ∀ x, x ≠ u → ub m' x = ub m x := fun x hx => by unfold ub aN; rw [om 36 (by decide) x hx, om 39 (by decide) x hx]
  have how : ∀ v, v < mN m 50 → aN m 51 v < u := fun v hv => by have := (h.kvv hv).2.1; omega
  have hkv : ∀ v, v < mN m 50 → kv m' v = kv m v := fun v hv => by
    have := how v hv
    have e51 : aN m' 51 v = aN m 51 v := by rw [aN, aN, A 51 (by decide)]
    have e53 : aN m' 53 v = aN m 53 v := by rw [aN, aN, A 53 (by decide)]
    unfold kv vI
    rw [e51, e53, A 54 (by decide), hub _ (by omega)]
  have hkp : KP m m' := ⟨hkv, by omega, by omega, by omega, by omega, by omega, fun i => ⟨md_frA fm (by decide) i, md_frA fm (by decide) i⟩, ⟨fun i hi => by rw [aN, aN, om 44 (by decide) i (by omega)]; exact ⟨Nat.le_refl _, fun x _ => by rw [aN, aN, A 45 (by decide)]⟩, fun v _ => by rw [aN, aN, A 51 (by decide)]⟩, ⟨⟨by rw [mN_fr fm (by decide)]; exact Nat.le_refl _, fun q hq => by unfold SP; rw [om 36 (by decide) q (by omega)]; exact ⟨Iff.rfl, id⟩⟩, fun a _ => md_frA fm (by decide) a⟩⟩
  have hAN : ∀ a x, x < u → (AN m' a x ↔ AN m a x) := fun a x hx => AN_gr (un := u) (fun i hi => om 36 (by decide) i (by omega)) (fun i hi => om 40 (by decide) i (by omega)) (fun i hi h0 => by rw [← hu]; exact hpar i (by omega) h0) hx
  have hrL : ∀ i, i ≠ u → rL c' (17 + 3 * i) = rL c (17 + 3 * i) := fun i hi => rL_fr fc (by simp; omega)
  have hrz : ∀ i, i ≠ u → rsz c' (17 + 3 * i) = rsz c (17 + 3 * i) := fun i hi => by rw [rsz, rsz, cd_frz fc (by simp; omega)]
  have k1 : cN c' 138 = cN c 138 := by rw [cN, cN, cd_frI fc (by decide) (by decide)]
  have k2 : cN c' 66 = u + 1 := cN_of h66 (by omega)
  have ns : nI s ≠ 0 := fun e => by have := (nI_eq (b := 0) (by omega) (by decide)).mp e; omega
  have hLM : LM m' := fun q hq h3 => by
    by_cases hqu : q = u
    · rw [hqu, m36] at h3
      exact absurd ((nI_eq (b := 3) (by omega) (by decide)).mp h3) hs3
    · obtain ⟨-, -, -, -, -, -, z, -⟩ := h
      rw [om 36 (by decide) q hqu] at h3
      obtain ⟨a, y1, y2⟩ := z.2.2.2.2.2 q (by omega) h3
      exact ⟨a, by rw [o 22 (by decide)]; exact y1, by rw [om 42 (by decide) q hqu]; exact y2⟩
  refine ⟨?_, ?_⟩
  · obtain ⟨⟨z1, z2, z3, z4, z5, z6, z7, z8, z9⟩, ⟨b1, b2, b3, b4, b5⟩, ⟨d1, d2, d3, d4, d5, d6⟩, e, f, g, i1, i2, i3, ⟨gg, ll, i4⟩, i5, i6, ⟨r, i7, i8, i9⟩, i10, i11⟩ := h
    refine ⟨⟨?_, ?_, ?_, ?_, by
      have e1 : scS c' (u + 1) = scS c u := by
        show scS c' u + rsz c' (17 + 3 * u) = _
        rw [hz, scS_ext (c := c) (c' := c') (fun i hi => hrz i (by omega))]; omega
      rw [k1, k2, e1]
      have : cN c 66 = u := by omega
      rw [this] at z5; omega, trivial, ?_, ?_, ?_⟩, ⟨?_, ?_, ?_, ?_, ?_⟩, ⟨?_, ?_, ?_, ?_, d5, ?_⟩, ?_, ?_, ?_, ⟨by rw [(hm [58] (by decide)).mN (k := 58) (by decide), cd_frI fc (by decide) (by decide)]; exact i1.1, by rw [(hm [58] (by decide)).mN (k := 58) (by decide), md_frI fm (by decide)]; exact i1.2.1, by rw [(hm [58] (by decide)).mN (k := 58) (by decide)]; exact Nat.le_trans i1.2.2.1 (by omega), fun i hi => by rw [cd_frA fc (by decide) (by decide), md_frA fm (by decide)]; exact i1.2.2.2.1 i (by rw [(hm [58] (by decide)).mN (k := 58) (by decide)] at hi; exact hi), i1.2.2.2.2.1.to (hm _ (by decide)) (by omega), hLM⟩, i2.to (hc _ (by decide)) (hm _ (by decide)) (by omega), i3.to (hc _ (by decide)) (hm _ (by decide)), ⟨gg, ll, i4.me (hc _ (by decide)) (hm _ (by decide))⟩, ⟨i5.1.to (hc _ (by decide)) (hm _ (by decide)) (by omega), fun a ha => by
      rcases List.mem_cons.mp ha with ha | ha
      · omega
      · have := i5.2.1 a ha; omega, fun i hi => by
      by_cases hiu : i = u
      · obtain ⟨dd, e1, e2⟩ := i5.2.2 (mN m 64) i10
        exact ⟨dd, e1, by rw [hiu, m37]; exact e2⟩
      · obtain ⟨dd, e1, e2⟩ := i5.2.2 i (by omega)
        exact ⟨dd, e1, by rw [om 37 (by decide) i hiu]; exact e2⟩⟩, ?_, ⟨r, ?_, ?_, ?_⟩, by omega, ?_⟩
    · rw [k1, cd_frI fc (by decide) (by decide)]; exact z1
    · rw [k1]; exact z2
    · rw [k2]; exact h66
    · omega
    · obtain ⟨w, w1, w2⟩ := z7
      exact ⟨w, by omega, by rw [cd_frP fc (by decide) (by decide)]; exact w2⟩
    · obtain ⟨w, w1, w2⟩ := z8
      exact ⟨w, by omega, by rw [cd_frP fc (by decide) (by decide)]; exact w2⟩
    · intro i hi
      rw [k2] at hi ⊢
      rw [k1]
      by_cases hiu : i = u
      · rw [hiu, hz]
        have := (z9 (mN m 64) (by omega)).1
        exact ⟨by omega, ⟨mN m 64, by omega, h295⟩, ⟨0, by omega, h299⟩, h288⟩
      · obtain ⟨t1, ⟨p, p1, p2⟩, t3, t4⟩ := z9 i (by omega)
        rw [hrz i hiu, oc 295 (by decide) i hiu, oc 299 (by decide) i hiu, oc 288 (by decide) i hiu]
        exact ⟨by omega, ⟨p, by omega, p2⟩, t3, t4⟩
    · rw [cd_frI fc (by decide) (by decide), md_frI fm (by decide)]; exact b1
    · rw [h66, m35]
    · rw [cd_frI fc (by decide) (by decide), md_frI fm (by decide)]; exact b3
    · rw [cd_frP fc (by decide) (by decide), o64]; exact b4
    · rw [o64, md_frI fm (by decide)]; exact b5
    · rw [o65, md_frI fm (by decide)]; exact d1
    · omega
    · rw [o50, md_frI fm (by decide)]; exact d3
    · omega
    · intro i hi
      by_cases hiu : i = u
      · rw [hiu]; exact ⟨0, h302, by omega⟩
      · obtain ⟨l, l1, l2⟩ := d6 i (by omega)
        exact ⟨l, by rw [oc 302 (by decide) i hiu]; exact l1, by omega⟩
    · intro i hi
      by_cases hiu : i = u
      · rw [hiu]
        obtain ⟨-, -, -, ⟨dd, e1, e2⟩, -⟩ := e (mN m 64) i10
        have ub0 : ub m' u = 0 := by
          unfold ub
          rw [m36, if_neg ns, aN, m39]; rfl
        refine ⟨by rw [h289, m36], ⟨s, hs4, m36⟩, by rw [h290, m37]; exact hsc.1.2.2, ⟨dd, e1, by rw [m37]; exact e2⟩, h292, by rw [h294, m39], ⟨0, by omega, m39⟩, by rw [h296, m42], ⟨0, m46, by omega, by rw [h298, ub0]; rfl⟩, ⟨0, by omega, h299, m44, fun x hx => absurd hx (by omega)⟩, Or.inr ⟨by rw [m36]; exact ns, mN m 64, by omega, m40, h295⟩, ⟨dd, by rw [m37]; exact e2, e1, ?_, h297, h301, fun y => absurd y (by rw [m36]; exact ns)⟩⟩
        rw [cd_frA fc (by decide) (by decide)]
        exact h291 dd (hsc.1.2.2.trans e2) e1
      · exact (e i (by omega)).pt (fun f hf => oc f (by revert hf; revert f; decide) i hiu) (o293 i hiu) (fun x => cd_frA fc (by decide) (by decide) i x) (fun d => cd_frA fc (by decide) (by decide) 0 d) (fun f hf => om f hf i hiu) (o43 i hiu) (fun x _ => A 45 (by decide) _) (fun v hv => ⟨hkv v hv, A 51 (by decide) v, A 53 (by decide) v, A 54 (by decide) v⟩) (by omega)
    · intro v hv
      have hv : v < mN m 50 := by omega
      have hw := how v hv
      obtain ⟨⟨w, u1, u2⟩, qq, r', t'⟩ := f v hv
      have ea : aN m' 51 v = aN m 51 v := by rw [aN, aN, A 51 (by decide)]
      have e53 : aN m' 53 v = aN m 53 v := by rw [aN, aN, A 53 (by decide)]
      have ei : vI m' v = vI m v := by unfold vI; rw [ea, e53, A 54 (by decide), hub _ (by omega)]
      have e46 : ∀ x, x ≠ u → aN m' 46 x = aN m 46 x := fun x hx => by unfold aN; rw [om 46 (by decide) x hx]
      exact ⟨⟨w, by omega, by rw [A 51 (by decide)]; exact u2⟩, by rw [A 53 (by decide)]; exact qq, by rw [ei, ea, hub _ (by omega), e46 _ (by omega)]; exact r', fun v2 hv2 => by rw [hkv v2 (by omega), hkv v hv]; exact t' v2 hv2⟩
    · obtain ⟨s1, s2, s3⟩ := g
      refine ⟨by rw [o56, o64, md_frI fm (by decide), cd_frI fc (by decide) (by decide), om 37 (by decide) _ (by omega)]; exact s1, fun i hi => ?_, fun w hw => ?_⟩
      · obtain ⟨v', v1, v2, v3, v4, v5⟩ := s2 i (by omega)
        exact ⟨v', by omega, by rw [A 57 (by decide)]; exact v2, by rw [cd_frL fc (by decide) (by decide), md_frL fm (by decide)]; exact v3, by rw [cd_frA fc (by decide) (by decide), hkv v' v1]; exact v4, by rw [o64, hAN _ _ (by omega), aN, A 51 (by decide)]; exact v5⟩
      · rw [o64, hAN _ _ (by omega)] at hw
        obtain ⟨t1, t2⟩ := s3 w hw
        have hwl := hanle w hw
        have e44 : aN m' 44 w = aN m 44 w := by rw [aN, aN, om 44 (by decide) w (by omega)]
        rw [e44]
        refine ⟨fun x hx => ?_, fun x y hx hy => ?_⟩
        · rw [A 45 (by decide)]
          rcases t1 x hx with ⟨r', r1, r2, r3⟩ | ⟨i, j1, j2⟩
          · have hrl := hanle r' r1
            exact Or.inl ⟨r', by rw [o64, hAN _ _ (by omega)]; exact r1, by rw [om 36 (by decide) r' (by omega)]; exact r2, by rw [om 55 (by decide) r' (by omega)]; exact r3⟩
          · exact Or.inr ⟨i, by omega, by rw [A 57 (by decide)]; exact j2⟩
        · rw [A 45 (by decide), A 45 (by decide)]; exact t2 x y hx hy
    · intro i hi hiO
      have hiu : i ≠ u := fun y => hiO (by rw [y]; simp)
      have hO : i ∉ O := fun y => hiO (by simp [y])
      have hcl := (i6 i (by omega) hO).cons
      rw [hu] at hcl
      refine hcl.to (hrL i hiu) (oc 302 (by decide) i hiu) (A 41 (by decide) i) hkp q35 (by omega) (by omega) (fun r ns n1 n2 _ => ?_) (clk (hm _ (by decide)))
      refine ⟨fun j _ _ => ⟨A 66 (by decide) j, A 67 (by decide) j, A 68 (by decide) j, A 69 (by decide) j, A 70 (by decide) j, fun _ => ⟨A 71 (by decide) j, A 72 (by decide) j⟩⟩, fun q' hq' => ?_⟩
      obtain ⟨t1, t2, t3⟩ := n2 q' hq'
      exact ⟨by rw [aN, aN, om 44 (by decide) q' (by omega)], fun x hx => by rw [aN, aN, A 45 (by decide)]⟩
    · rw [cd_frP fc (by decide) (by decide)]; exact i7
    · rw [o64, hAN _ _ (by omega)]; exact i8
    · have hrl := hanle r i8
      rw [om 36 (by decide) r (by omega)]; exact i9
    · intro w hw
      rw [o64, hAN _ _ (by omega)] at hw
      exact List.mem_cons_of_mem _ (i11 w hw)
  · refine ⟨⟨by omega, fun j _ => ⟨A 66 (by decide) j, A 67 (by decide) j, A 68 (by decide) j, A 69 (by decide) j, A 70 (by decide) j, ⟨A 71 (by decide) j, A 72 (by decide) j⟩⟩⟩, hkp, fun i hi => ?_, fun v _ => ⟨A 51 (by decide) v, md_frL fm (by decide) v, A 53 (by decide) v, A 54 (by decide) v⟩, md_frI fm (by decide), fun i _ => A 57 (by decide) i, md_frI fm (by decide), md_frI fm (by decide), md_frI fm (by decide), cd_frI fc (by decide) (by decide) 0, cd_frP fc (by decide) (by decide) 0, fun i a1 a2 => ?_, by omega⟩
    · have hiu : i ≠ u := by omega
      exact ⟨⟨om 36 (by decide) i hiu, om 37 (by decide) i hiu, om 39 (by decide) i hiu, om 40 (by decide) i hiu, A 41 (by decide) i, om 55 (by decide) i hiu, o43 i hiu, o293 i hiu⟩, fun _ => ⟨om 46 (by decide) i hiu, hrL i hiu, oc 302 (by decide) i hiu⟩, fun _ => ⟨om 44 (by decide) i hiu, fun x _ => A 45 (by decide) _⟩⟩
    · have : i = u := by omega
      rw [this, m36]; exact ns
