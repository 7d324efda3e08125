/-! parameters, in step -/
theorem nI_gtm1 {a : Nat} (h : a < 2 ^ 31) : (-1 : Int32) < nI a := by
  rw [Int32.lt_iff_toInt_lt]
  have e2 : (nI a).toInt = (a : Int) := Int32.toInt_ofNat_of_lt h
  rw [e2, show (-1 : Int32).toInt = -1 from rfl]
  omega
theorem md_fr64 {L : List Nat} {s t : md_S} {v : Int32} (h : md_fr L s t) : md_fr L (mSI s 64 v) (mSI t 64 v) := fun j hj => by
  have hh := h j hj
  have key : (mSI s 64 v).1 j = (mSI t 64 v).1 j := by
    show (if j = 64 then v else s.1 j) = (if j = 64 then v else t.1 j)
    by_cases hj6 : j = 64
    · rw [if_pos hj6, if_pos hj6]
    · rw [if_neg hj6, if_neg hj6]; exact hh.1
  exact ⟨key, hh.2⟩
theorem c_fv {n : Nat} {c : cd_S} {x : Int64} {s : Nat} (hs : s ≤ 12) : ∀ (i j : Nat), i ≤ s → i < j → (∃ idx, idx < i ∧ cLr c 132 0 idx = x ∧ (∀ y, idx < y → y < i → cLr c 132 0 y ≠ x) ∧ f_X4_findVariable_L7 n x j c (nI i - 1) = some (c, nI idx)) ∨ ((∀ y, y < i → cLr c 132 0 y ≠ x) ∧ f_X4_findVariable_L7 n x j c (nI i - 1) = some (c, -1)) := by
  intro i
  induction i with
  | zero =>
    intro j hi hj
    obtain ⟨j, rfl⟩ : ∃ q, j = q + 1 := ⟨j - 1, by omega⟩
    right
    refine ⟨fun y hy => absurd hy (by omega), ?_⟩
    rw [show nI 0 - 1 = (-1 : Int32) by decide, u_X4_findVariable_L7, if_pos (by decide)]
  | succ i ih =>
    intro j hi hj
    obtain ⟨j, rfl⟩ : ∃ q, j = q + 1 := ⟨j - 1, by omega⟩
    have hneg : nI i + -1 = nI i - 1 := (Int32.sub_eq_add_neg _ _).symm
    rw [nI_back, u_X4_findVariable_L7, if_neg (show ¬ nI i < 0 from nI_nn (by omega)), c_ld132 (by omega), bs_some]
    by_cases hxi : cLr c 132 0 i = x
    · rw [if_pos (lgc.mpr hxi)]
      exact Or.inl ⟨i, by omega, hxi, fun y h1 h2 => by omega, rfl⟩
    · rw [if_neg (fun y => hxi (lgc.mp y)), hneg]
      rcases ih j (by omega) (by omega) with ⟨idx, a1, a2, a3, a4⟩ | ⟨a1, a2⟩
      · refine Or.inl ⟨idx, by omega, a2, fun y h1 h2 => ?_, a4⟩
        by_cases hy : y = i
        · rw [hy]; exact hxi
        · exact a3 y h1 (by omega)
      · refine Or.inr ⟨fun y hy => ?_, a2⟩
        by_cases hy' : y = i
        · rw [hy']; exact hxi
        · exact a1 y (by omega)
theorem m_dup {n : Nat} {m : md_S} {s : Nat} {l1 l2 l3 : Int32} (hs : s ≤ 12) (h56 : mI m 56 = nI s) (hv : ∀ i, i < s → ∃ v, v < 460 ∧ mA m 57 i = nI v) : ∀ (d j i : Nat), i + d = s → d < j → (∃ y v, i ≤ y ∧ y < s ∧ v < 460 ∧ mA m 57 y = nI v ∧ mL m 52 v = mJ m 12 ∧ f_X12_parameters_L71 n l1 l2 l3 j m (nI i) = Option.bind (f_X12_fails n m (2 : Int32)) fun p9 => some (Sum.inl ((0 : Int32), p9.2))) ∨ ((∀ y v, i ≤ y → y < s → v < 460 → mA m 57 y = nI v → mL m 52 v ≠ mJ m 12) ∧ f_X12_parameters_L71 n l1 l2 l3 j m (nI i) = some (Sum.inr (m, nI s))) := by
  intro d
  induction d with
  | zero =>
    intro j i hi hj
    obtain ⟨j, rfl⟩ : ∃ q, j = q + 1 := ⟨j - 1, by omega⟩
    obtain rfl : i = s := by omega
    right
    refine ⟨fun y v h1 h2 => absurd h1 (by omega), ?_⟩
    rw [u_X12_parameters_L71, h56, if_pos ((nI_leI (by omega) (by omega)).mpr (Nat.le_refl _))]
  | succ d ih =>
    intro j i hi hj
    obtain ⟨j, rfl⟩ : ∃ q, j = q + 1 := ⟨j - 1, by omega⟩
    obtain ⟨v, v1, v2⟩ := hv i (by omega)
    rw [u_X12_parameters_L71, h56, if_neg (fun y => absurd ((nI_leI (by omega) (by omega)).mp y) (by omega)), m_ld57 (by omega), bs_some, v2, m_ld52 (by omega), bs_some]
    by_cases hxi : mL m 52 v = mJ m 12
    · rw [if_pos (lgc.mpr hxi)]
      exact Or.inl ⟨i, v, Nat.le_refl _, by omega, v1, v2, hxi, rfl⟩
    · rw [if_neg (fun y => hxi (lgc.mp y)), nI_1]
      rcases ih j (i + 1) (by omega) (by omega) with ⟨y, w, a1, a2, a0, a3, a4, a5⟩ | ⟨a1, a2⟩
      · exact Or.inl ⟨y, w, by omega, a2, a0, a3, a4, a5⟩
      · refine Or.inr ⟨fun y w h1 h2 h3 h4 => ?_, a2⟩
        by_cases hy : y = i
        · rw [hy, v2] at h4
          have : v = w := (nI_eq (by omega) (by omega)).mp h4
          rw [← this]; exact hxi
        · exact a1 y w (by omega) h2 h3 h4
/-- what parameters leave behind -/
def PF (u : Nat) (ca c : cd_S) (ma m : md_S) : Prop :=
  cd_fr [132, 133, 134, 294, 298, 327, 328, 329, 330] [] ca c ∧ md_fr [6, 7, 8, 9, 10, 11, 12, 13, 14, 15, 39, 50, 51, 52, 53, 54, 56, 57] ma m ∧ (∀ i, i ≠ u → cI c 294 i = cI ca 294 i ∧ cI c 298 i = cI ca 298 i ∧ mA m 39 i = mA ma 39 i) ∧ (∀ v, v < mN ma 50 → (mA m 51 v = mA ma 51 v ∧ mL m 52 v = mL ma 52 v ∧ mA m 53 v = mA ma 53 v ∧ mA m 54 v = mA ma 54 v) ∧ kv m v = kv ma v) ∧ mN ma 50 ≤ mN m 50 ∧ (∀ i, i < mN ma 56 → mA m 57 i = mA ma 57 i) ∧ mN ma 56 ≤ mN m 56 ∧ (∀ i, mN ma 56 ≤ i → i < mN m 56 → ∃ v, v < mN m 50 ∧ mA m 57 i = nI v ∧ aN m 51 v = u) ∧ mI m 7 = mI ma 7
theorem PF.fr {u : Nat} {ca c : cd_S} {ma m : md_S} (fc : cd_fr [327, 328, 329, 330] [] ca c) (fm : md_fr [6, 7, 8, 9, 10, 11, 12, 13, 14, 15] ma m) (h7 : mI m 7 = mI ma 7) : PF u ca c ma m := by
  refine ⟨cd_fr_mono fc (by decide) (fun _ y => y), md_fr_mono fm (by decide), fun i _ => ⟨cd_frI fc (by decide) (by decide) i, cd_frI fc (by decide) (by decide) i, md_frA fm (by decide) i⟩, fun v _ => ⟨⟨md_frA fm (by decide) v, md_frL fm (by decide) v, md_frA fm (by decide) v, md_frA fm (by decide) v⟩, kv_ME (ME.of fm (by decide)) v⟩, by rw [mN_fr fm (by decide)]; exact Nat.le_refl _, fun i _ => md_frA fm (by decide) i, by rw [mN_fr fm (by decide)]; exact Nat.le_refl _, fun i h1 h2 => ?_, h7⟩
  rw [mN_fr fm (by decide)] at h2
  omega
theorem PF.tr {u : Nat} {ca c c2 : cd_S} {ma m m2 : md_S} (h : PF u ca c ma m) (h2 : PF u c c2 m m2) : PF u ca c2 ma m2 := by
  obtain ⟨a1, a2, a3, a4, a5, a6, a7, a8, a9⟩ := h
  obtain ⟨b1, b2, b3, b4, b5, b6, b7, b8, b9⟩ := h2
  refine ⟨cd_fr_tr a1 b1 (fun _ y => ⟨y, y⟩) (fun _ y => ⟨y, y⟩), md_fr_tr a2 b2 (fun _ y => ⟨y, y⟩), fun i hi => ?_, fun v hv => ?_, by omega, fun i hi => (b6 i (by omega)).trans (a6 i hi), by omega, fun i h1 h2 => ?_, b9.trans a9⟩
  · obtain ⟨x1, x2, x3⟩ := a3 i hi
    obtain ⟨y1, y2, y3⟩ := b3 i hi
    exact ⟨y1.trans x1, y2.trans x2, y3.trans x3⟩
  · obtain ⟨⟨x1, x2, x3, x4⟩, x5⟩ := a4 v hv
    obtain ⟨⟨y1, y2, y3, y4⟩, y5⟩ := b4 v (by omega)
    exact ⟨⟨y1.trans x1, y2.trans x2, y3.trans x3, y4.trans x4⟩, y5.trans x5⟩
  · by_cases hi : i < mN m 56
    · obtain ⟨v, v1, v2, v3⟩ := a8 i h1 hi
      exact ⟨v, by omega, (b6 i hi).trans v2, by rw [aN, (b4 v v1).1.1]; exact v3⟩
    · exact b8 i (by omega) h2
abbrev MP : Type := (Int32 × md_S) ⊕ (md_S × Int32)
def msP : MP → md_S := fun y => Sum.elim (fun p => p.2) (fun t => t.1) y
theorem parL {n : Nat} {C : Nat × Nat} {B : Nat → Int32} {N : Nat} {c0 : cd_S} {m0 : md_S} {O : List Nat} {mc k kl u f0 off : Nat} (hC : BC C) (hn : 5000 ≤ n) (hu60 : u < 60) : ∀ (d jj j2 p : Nat) (c : cd_S) (b : cd_B) (m : md_S) (w : WD) (L : List WD), p + d = 3 → d + 1 < jj → d + 1 < j2 → CI C c0 b c b → MI m0 m → LX B N c m w L → ST c (mSI m 64 (nI u)) O (mc + 32 * d) k kl → mA m 39 u = nI p → mA m 46 u = 0 → ub m u = off + p → f0 ≤ mN m 56 →
    OUTX C c0 m0 b (fun (r : TL) => r.1) (fun (r : TL) => r.2.1) msP (f_X4_readParameters_L25 n (nI f0) (jj + 1) c b 1 (nI p)) (f_X12_parameters_L31 n (nI u) (nI off) (nI f0) (j2 + 1) m 1)
      (fun r y => ∃ mm p' w' L', y = Sum.inr (mm, 0) ∧ r.2.1 = b ∧ LX B N r.1 mm w' L' ∧ L'.length ≤ L.length ∧ p' ≤ 3 ∧ mA mm 39 u = nI p' ∧ cI r.1 294 u = nI p' ∧ ST r.1 (mSI mm 64 (nI u)) O mc k kl ∧ PF u c r.1 m mm) (fun _ => True) := by
  intro d
  induction d with
  | zero =>
    intro jj j2 p c b m w L hd hjj hj2 hc hm h hs h39 h46 hub hf0
    obtain rfl : p = 3 := by omega
    obtain ⟨jj, rfl⟩ : ∃ q, jj = q + 1 := ⟨jj - 1, by omega⟩
    obtain ⟨j2, rfl⟩ : ∃ q, j2 = q + 1 := ⟨j2 - 1, by omega⟩
    rw [u_X4_readParameters_L25, if_neg ne10, if_neg (show ¬ (3 : Int32) < nI 3 by decide), u_X12_parameters_L31, if_neg ne10]
    rcases m_isName (n := n) h with ⟨hk, hm1⟩ | ⟨hk, m4, hm1, hf1, hn1⟩
    · refine outx_c (c_needName1 (h.k.1.trans hk)) ?_
      dsimp only
      rw [if_pos (show (3 : Int32) ≤ nI 3 by decide), hm1, bs_some]
      dsimp only
      rw [if_neg ne10, m_ld39 hu60, bs_some, h39, if_pos (show nI 3 = (3 : Int32) from rfl)]
      unfold f_X4_readParameters_J57 f_X4_readParameters_J58 f_X12_parameters_J62
      obtain ⟨c', b', e1, e2⟩ := c_room0 (n := n) hC hc.1 h.k.2.1
      obtain ⟨m', f1, f2, f3⟩ := m_failsW (n := n) (k := 4) h (by decide) (by decide)
      refine outx_thr (y := Sum.inl (0, m')) e1 e2 hc (ble.refl _) ?_ (hm.fr f2 (by decide)) f3
      rw [show f_X12_fails n m 4 = _ from f1, bs_some]
    · obtain ⟨c', b', e1, e2⟩ := c_needName0 (n := n) hC hc.1 h.k.2.1 (by rw [h.k.1]; exact hk)
      refine outx_thr (y := Sum.inr (m4, 1)) e1 e2 hc (ble.refl _) ?_ (hm.fr hf1 (by decide)) hn1
      rw [hm1, bs_some]
      rfl
  | succ d ih =>
    intro jj j2 p c b m w L hd hjj hj2 hc hm h hs h39 h46 hub hf0
    obtain ⟨jj, rfl⟩ : ∃ q, jj = q + 1 := ⟨jj - 1, by omega⟩
    obtain ⟨j2, rfl⟩ : ∃ q, j2 = q + 1 := ⟨j2 - 1, by omega⟩
    have hp3 : p < 3 := by omega
    rw [u_X4_readParameters_L25, if_neg ne10, if_neg (show ¬ (3 : Int32) < nI p from fun y => absurd ((nI_ltI (a := 3) (by decide) (by omega)).mp y) (by omega)), u_X12_parameters_L31, if_neg ne10]
    rcases m_isName (n := n) h with ⟨hk, hm1⟩ | ⟨hk, m4, hm1, hf1, hn1⟩
    · refine outx_c (c_needName1 (h.k.1.trans hk)) ?_
      dsimp only
      rw [if_neg (show ¬ (3 : Int32) ≤ nI p from fun y => absurd ((nI_leI (a := 3) (by decide) (by omega)).mp y) (by omega)), hm1, bs_some]
      dsimp only
      rw [if_neg ne10, m_ld39 hu60, bs_some, h39, if_neg (show ¬ nI p = (3 : Int32) from fun y => absurd ((nI_eq (b := 3) (by omega) (by decide)).mp y) (by omega))]
      have f64 : md_fr [64] m (mSI m 64 (nI u)) := md_fr_SI (md_fr_refl _ _) (by decide) _
      have n64 : mN (mSI m 64 (nI u)) 64 = u := mN_of mI_SIe (by omega)
      have hN : ∀ q, q ≠ 64 → mN (mSI m 64 (nI u)) q = mN m q := fun q hq => by rw [mN, mN, mI_SIo hq]
      obtain ⟨q62, q35, q50, q65, -, -, -, -, -, -, -, q56, s56, s134⟩ := hs.nv
      have hnow := hs.now
      rw [hN 62 (by decide)] at q62
      rw [hN 35 (by decide)] at q35
      rw [hN 50 (by decide)] at q50
      rw [hN 56 (by decide)] at q56 s56 s134
      rw [mI_SIo (by decide)] at s56
      rw [n64] at hnow
      have h50 : mI m 50 = nI (mN m 50) := by
        have := hnow.2.2.2.2.2.2.2
        rw [hN 50 (by decide), mI_SIo (by decide)] at this
        exact this
      have hsc := hs.sc
      rw [s134, s56]
      by_cases h12 : mN m 56 = 12
      · rw [h12, if_pos (show (12 : Int32) ≤ nI 12 by decide), if_pos (show nI 12 = (12 : Int32) from rfl)]
        unfold f_X4_readParameters_J57 f_X4_readParameters_J58 f_X12_parameters_J62
        obtain ⟨c', b', e1, e2⟩ := c_room0 (n := n) hC hc.1 h.k.2.1
        obtain ⟨m', f1, f2, f3⟩ := m_failsW (n := n) (k := 4) h (by decide) (by decide)
        refine outx_thr (y := Sum.inl (0, m')) e1 e2 hc (ble.refl _) ?_ (hm.fr f2 (by decide)) f3
        rw [show f_X12_fails n m 4 = _ from f1, bs_some]
      · have hs12 : mN m 56 < 12 := by omega
        rw [if_neg (show ¬ (12 : Int32) ≤ nI (mN m 56) from fun y => absurd ((nI_leI (a := 12) (by decide) (by omega)).mp y) (by omega)), if_neg (show ¬ nI (mN m 56) = (12 : Int32) from fun y => h12 ((nI_eq (b := 12) (by omega) (by decide)).mp y))]
        unfold f_X4_readParameters_J58
        refine outx_c c_room1 ?_
        dsimp only
        -- the name among those of before
        have hsv : ∀ i, i < mN m 56 → ∃ v, v < mN m 50 ∧ mA m 57 i = nI v ∧ NR (cLr c 132 0 i) (mL m 52 v) := fun i hi => by
          obtain ⟨v, v1, v2, v3, -⟩ := hsc.2.1 i (by rw [hN 56 (by decide)]; exact hi)
          rw [hN 50 (by decide)] at v1
          exact ⟨v, v1, v2, v3⟩
        have hx := h.mw.2.2.2.2.2.1 hk
        have hfv := c_fv (n := n) (c := c) (x := wX w) (s := mN m 56) (by omega) (mN m 56) n (Nat.le_refl _) (by omega)
        have hdp := m_dup (n := n) (m := m) (l1 := nI u) (l2 := nI off) (l3 := nI f0) (s := mN m 56) (by omega) s56 (fun i hi => by
          obtain ⟨v, v1, v2, v3⟩ := hsv i hi
          exact ⟨v, by omega, v2⟩) (mN m 56 - f0) n f0 (by omega) (by omega)
        have hff : ∀ z, f_X4_findVariable_L7 n (wX w) n c (nI (mN m 56) - 1) = some (c, z) → f_X4_findVariable n c (cJ c 330 0) = some (z, c) := fun z hz => by
          unfold f_X4_findVariable
          rw [h.k.2.2, s134, hz, bs_some]
        rcases hdp with ⟨y, v, y1, y2, y0, y3, y4, y5⟩ | ⟨y1, y5⟩
        · -- twice
          obtain ⟨v', v1, v2, v3⟩ := hsv y y2
          have hvv : v' = v := (nI_eq (by omega) (by omega)).mp (v2.symm.trans y3)
          subst hvv
          have heq : cLr c 132 0 y = wX w := (NR.iff v3 hx).mpr y4
          obtain ⟨c', b', g1, g2⟩ := c_refuse (n := n) (k := 2) (pl := wF w) hC hc.1
          obtain ⟨m2, f1, f2, f3⟩ := m_failsW (n := n) (k := 2) h (by decide) (by decide)
          rcases hfv with ⟨idx, a1, a2, a3, a4⟩ | ⟨a1, a2⟩
          · have hidx : f0 ≤ idx := by
              by_cases hlt : idx < y
              · exact absurd heq (a3 y hlt y2)
              · omega
            rw [hff _ a4, bs_some]
            dsimp only
            rw [if_neg (show ¬ nI idx < nI f0 from fun z => absurd ((nI_ltI (by omega) (by omega)).mp z) (by omega)), h.k.2.1]
            refine outx_thr (y := Sum.inl (0, m2)) (show f_X4_refuse n c b 2 (nI (wF w)) = _ from g1) g2 hc (ble.refl _) ?_ (hm.fr f2 (by decide)) f3
            rw [y5, show f_X12_fails n m 2 = _ from f1, bs_some, bs_some]
            rfl
          · exact absurd heq (a1 y y2)
        · -- a new name
          have hlt : ∃ z, f_X4_findVariable n c (cJ c 330 0) = some (z, c) ∧ z < nI f0 := by
            rcases hfv with ⟨idx, a1, a2, a3, a4⟩ | ⟨a1, a2⟩
            · refine ⟨_, hff _ a4, ?_⟩
              by_cases hi : idx < f0
              · exact (nI_ltI (by omega) (by omega)).mpr hi
              · obtain ⟨v, v1, v2, v3⟩ := hsv idx a1
                exact absurd ((NR.iff v3 hx).mp a2) (y1 idx v (by omega) a1 (by omega) v2)
            · exact ⟨_, hff _ a2, nI_gtm1 (by omega)⟩
          obtain ⟨z, z1, z2⟩ := hlt
          rw [z1, bs_some]
          dsimp only
          rw [if_pos z2, y5, bs_some]
          unfold f_X4_readParameters_J88 f_X4_readParameters_J143 f_X4_readParameters_J155
          dsimp only [Sum.elim]
          -- the class
          have h288 : cI c 288 u = nI u := by
            have hcn := hs.nv.2.2.2.2.2.1
            rw [hN 35 (by decide)] at hcn
            have hu35 : u < mN m 35 := by have := hnow.1; rw [hN 35 (by decide)] at this; exact this
            obtain ⟨⟨x1, x2, x3, x4, x5, x6, x7, x8, x9⟩, -⟩ := hs
            exact (x9 u (by omega)).2.2.2
          have hu35 : u < mN m 35 := by have := hnow.1; rw [hN 35 (by decide)] at this; exact this
          obtain ⟨w1, -, -, -, -, w6, -, -, ⟨q0, t1, t2, t3⟩, -⟩ := hs.ur u (by rw [hN 35 (by decide)]; exact hu35)
          have hq0 : q0 = 0 := ((nI_eq (a := 0) (by decide) (by rw [hN 50 (by decide)] at t2; omega)).mp (h46.symm.trans t1)).symm
          rw [hq0, Nat.add_zero] at t3
          have t3 : cI c 298 u = nI (ub m u) := t3
          have w6 : cI c 294 u = nI p := w6.trans h39
          have hub4 : off ≤ 1 := by
            have : ub m u ≤ 1 + p := by
              unfold ub
              rw [aN_of h39 (by omega)]
              split <;> omega
            omega
          obtain ⟨c3, hc3'⟩ : ∃ z, z = cSI (cSI (cSA (cSL (cSI c 298 u (nI (ub m u + 1))) 132 0 (mN m 56) (wX w)) 133 0 (mN m 56) (nI (u * 1024 + ub m u))) 134 0 (nI (mN m 56 + 1))) 294 u (nI (p + 1)) := ⟨_, rfl⟩
          rw [hnow.2.2.2.1, bs_some, c_addOwn, bs_some, h288, t3, key_eq, nI_1]
          dsimp only
          have e134 : cI (cSI c 298 u (nI (ub m u + 1))) 134 0 = nI (mN m 56) := by rw [cI_SIo (by decide)]; exact s134
          rw [h.k.2.2, c_declare e134 hs12, bs_some]
          dsimp only
          have hdp2 : cd_dp (cSI (cSA (cSL (cSI c 298 u (nI (ub m u + 1))) 132 0 (mN m 56) (wX w)) 133 0 (mN m 56) (nI (u * 1024 + ub m u))) 134 0 (nI (mN m 56 + 1))) 136 0 = some u := hnow.2.2.2.1
          have e294 : cI (cSI (cSA (cSL (cSI c 298 u (nI (ub m u + 1))) 132 0 (mN m 56) (wX w)) 133 0 (mN m 56) (nI (u * 1024 + ub m u))) 134 0 (nI (mN m 56 + 1))) 294 u = nI p := by
            rw [cI_SIo (by decide), cI_SA, cI_SL, cI_SIo (by decide)]; exact w6
          rw [hdp2, bs_some, e294, nI_1, bs_some, ← hc3']
          -- the model
          obtain ⟨m4, hm4'⟩ : ∃ z, z = mSA (mSI (mSA (mSA (mSA (mSL (mSA (mSI m 50 (nI (mN m 50 + 1))) 51 (mN m 50) (nI u)) 52 (mN m 50) (mJ m 12)) 53 (mN m 50) (nI (off + p))) 54 (mN m 50) (vp_nar .boolean 0)) 57 (mN m 56) (nI (mN m 50))) 56 (nI (mN m 56 + 1))) 39 u (nI (p + 1)) := ⟨_, rfl⟩
          rw [m_ld39 hu60, bs_some, h39, nI_add, m_newVar h50 (by omega), bs_some]
          dsimp only
          rw [s56, m_st57 (by omega), bs_some]
          have e56 : mI (mSA (mSA (mSA (mSL (mSA (mSI m 50 (nI (mN m 50 + 1))) 51 (mN m 50) (nI u)) 52 (mN m 50) (mJ m 12)) 53 (mN m 50) (nI (off + p))) 54 (mN m 50) (vp_nar .boolean 0)) 57 (mN m 56) (nI (mN m 50))) 56 = nI (mN m 56) := by
            rw [mI_SA, mI_SA, mI_SA, mI_SL, mI_SA, mI_SIo (by decide)]; exact s56
          rw [e56, nI_1, bs_some, m_ld39 hu60, bs_some]
          have e39 : mA (mSI (mSA (mSA (mSA (mSL (mSA (mSI m 50 (nI (mN m 50 + 1))) 51 (mN m 50) (nI u)) 52 (mN m 50) (mJ m 12)) 53 (mN m 50) (nI (off + p))) 54 (mN m 50) (vp_nar .boolean 0)) 57 (mN m 56) (nI (mN m 50))) 56 (nI (mN m 56 + 1))) 39 u = nI p := by
            rw [mA_SI, mA_SAo (by decide), mA_SAo (by decide), mA_SAo (by decide), mA_SL, mA_SAo (by decide), mA_SI]; exact h39
          rw [e39, nI_1, m_st39 hu60, bs_some, ← hm4']
          have fc3 : cd_fr [132, 133, 134, 294, 298] [] c c3 := by
            rw [hc3']
            exact cd_fr_SI (cd_fr_SI (cd_fr_SA (cd_fr_SL (cd_fr_SI (cd_fr_refl _ _ _) (by decide) (by decide) _ _) (by decide) _ _ _) (by decide) _ _ _) (by decide) (by decide) _ _) (by decide) (by decide) _ _
          have fm4 : md_fr [39, 50, 51, 52, 53, 54, 56, 57] m m4 := by
            rw [hm4']
            exact md_fr_SA (md_fr_SI (md_fr_SA (md_fr_SA (md_fr_SA (md_fr_SL (md_fr_SA (md_fr_SI (md_fr_refl _ _) (by decide) _) (by decide) _ _) (by decide) _ _) (by decide) _ _) (by decide) _ _) (by decide) _ _) (by decide) _) (by decide) _ _
          have pc4 : PC m4 := h.pc.vs fm4 (by decide) (fun v hv => by
            rw [hm4', mA_SAo (by decide), mA_SI, mA_SAo (by decide), mA_SAo (by decide), mA_SAo (by decide), mA_SL, mA_SAi (by omega), mA_SI]) (fun q hq x hx => by
            have z := hs.cv q (by rw [hN 35 (by decide)]; exact hq) x hx
            rw [hN 50 (by decide)] at z
            exact z)
          have hX4 : LX B N c3 m4 w L := h.frp fc3 fm4 (by decide) (by decide) (by decide) pc4
          obtain ⟨c5, m5, a1, a2, a3, a4, ⟨w5, L5, hL5, a5⟩, a6⟩ := adv_ok (n := n) hn hX4 (by rw [hk]; decide)
          rw [a1, bs_some, a2, bs_some]
          dsimp only
          have hc5 : CI C c0 b c5 b := (hc.fr fc3 (by decide)).fr a3 (by decide)
          have hm5 : MI m0 m5 := (hm.fr fm4 (by decide)).fr a4 (by decide)
          have fc5 : cd_fr [132, 133, 134, 294, 298, 327, 328, 329, 330] [] c c5 := cd_fr_tr fc3 a3 (fun k hk => ⟨nin (by decide) hk, nin (by decide) hk⟩) (fun k hk => ⟨hk, hk⟩)
          have fm5 : md_fr [6, 7, 8, 9, 10, 11, 12, 13, 14, 15, 39, 50, 51, 52, 53, 54, 56, 57] m m5 := md_fr_tr fm4 a4 (fun k hk => ⟨nin (by decide) hk, nin (by decide) hk⟩)
          -- values
          have v294 : ∀ j, cI c5 294 j = if j = u then nI (p + 1) else cI c 294 j := fun j => by
            rw [cd_frI a3 (by decide) (by decide), hc3']
            by_cases hj : j = u
            · rw [hj, cI_SIe, if_pos rfl]
            · rw [cI_SIi hj, if_neg hj, cI_SIo (by decide), cI_SA, cI_SL, cI_SIo (by decide)]
          have v298 : ∀ j, cI c5 298 j = if j = u then nI (ub m u + 1) else cI c 298 j := fun j => by
            rw [cd_frI a3 (by decide) (by decide), hc3', cI_SIo (by decide), cI_SIo (by decide), cI_SA, cI_SL]
            by_cases hj : j = u
            · rw [hj, cI_SIe, if_pos rfl]
            · rw [cI_SIi hj, if_neg hj]
          have v134 : cI c5 134 0 = nI (mN m 56 + 1) := by rw [cd_frI a3 (by decide) (by decide), hc3', cI_SIo (by decide), cI_SIe]
          have v132 : ∀ j, cLr c5 132 0 j = if j = mN m 56 then wX w else cLr c 132 0 j := fun j => by
            rw [cd_frL a3 (by decide) (by decide), hc3']
            show cLr (cSL (cSI c 298 u (nI (ub m u + 1))) 132 0 (mN m 56) (wX w)) 132 0 j = _
            by_cases hj : j = mN m 56
            · rw [hj, cL_SLe, if_pos rfl]
            · rw [cL_SLi hj, if_neg hj]; rfl
          have v133 : ∀ j, cAr c5 133 0 j = if j = mN m 56 then nI (u * 1024 + ub m u) else cAr c 133 0 j := fun j => by
            rw [cd_frA a3 (by decide) (by decide), hc3']
            show cAr (cSA (cSL (cSI c 298 u (nI (ub m u + 1))) 132 0 (mN m 56) (wX w)) 133 0 (mN m 56) (nI (u * 1024 + ub m u))) 133 0 j = _
            by_cases hj : j = mN m 56
            · rw [hj, cA_SAe, if_pos rfl]
            · rw [cA_SAi hj, if_neg hj]; rfl
          have u39 : ∀ j, mA m5 39 j = if j = u then nI (p + 1) else mA m 39 j := fun j => by
            rw [md_frA a4 (by decide), hm4']
            by_cases hj : j = u
            · rw [hj, mA_SAe, if_pos rfl]
            · rw [mA_SAi hj, if_neg hj, mA_SI, mA_SAo (by decide), mA_SAo (by decide), mA_SAo (by decide), mA_SL, mA_SAo (by decide), mA_SI]
          have u50 : mI m5 50 = nI (mN m 50 + 1) := by
            rw [md_frI a4 (by decide), hm4', mI_SA, mI_SIo (by decide), mI_SA, mI_SA, mI_SA, mI_SL, mI_SA, mI_SIe]
          have u56 : mI m5 56 = nI (mN m 56 + 1) := by rw [md_frI a4 (by decide), hm4', mI_SA, mI_SIe]
          have u57 : ∀ j, mA m5 57 j = if j = mN m 56 then nI (mN m 50) else mA m 57 j := fun j => by
            rw [md_frA a4 (by decide), hm4', mA_SAo (by decide), mA_SI]
            by_cases hj : j = mN m 56
            · rw [hj, mA_SAe, if_pos rfl]
            · rw [mA_SAi hj, if_neg hj, mA_SAo (by decide), mA_SAo (by decide), mA_SL, mA_SAo (by decide), mA_SI]
          have u51 : ∀ j, mA m5 51 j = if j = mN m 50 then nI u else mA m 51 j := fun j => by
            rw [md_frA a4 (by decide), hm4', mA_SAo (by decide), mA_SI, mA_SAo (by decide), mA_SAo (by decide), mA_SAo (by decide), mA_SL]
            by_cases hj : j = mN m 50
            · rw [hj, mA_SAe, if_pos rfl]
            · rw [mA_SAi hj, if_neg hj, mA_SI]
          have u53 : ∀ j, mA m5 53 j = if j = mN m 50 then nI (off + p) else mA m 53 j := fun j => by
            rw [md_frA a4 (by decide), hm4', mA_SAo (by decide), mA_SI, mA_SAo (by decide), mA_SAo (by decide)]
            by_cases hj : j = mN m 50
            · rw [hj, mA_SAe, if_pos rfl]
            · rw [mA_SAi hj, if_neg hj, mA_SL, mA_SAo (by decide), mA_SI]
          have u54 : ∀ j, mA m5 54 j = if j = mN m 50 then 0 else mA m 54 j := fun j => by
            rw [md_frA a4 (by decide), hm4', mA_SAo (by decide), mA_SI, mA_SAo (by decide)]
            by_cases hj : j = mN m 50
            · rw [hj, mA_SAe, if_pos rfl]; decide
            · rw [mA_SAi hj, if_neg hj, mA_SAo (by decide), mA_SL, mA_SAo (by decide), mA_SI]
          have u52 : ∀ j, mL m5 52 j = if j = mN m 50 then mJ m 12 else mL m 52 j := fun j => by
            rw [md_frL a4 (by decide), hm4', mL_SA, mL_SI, mL_SA, mL_SA, mL_SA]
            by_cases hj : j = mN m 50
            · rw [hj, mL_SLe, if_pos rfl]
            · rw [mL_SLi hj, if_neg hj, mL_SA, mL_SI]
          have n505 : mN m5 50 = mN m 50 + 1 := mN_of u50 (by omega)
          have n565 : mN m5 56 = mN m 56 + 1 := mN_of u56 (by omega)
          have hvo : ∀ v, v < mN m 50 → mA m5 51 v = mA m 51 v ∧ mL m5 52 v = mL m 52 v ∧ mA m5 53 v = mA m 53 v ∧ mA m5 54 v = mA m 54 v := fun v hv => by
            rw [u51, u52, u53, u54, if_neg (by omega), if_neg (by omega), if_neg (by omega), if_neg (by omega)]
            exact ⟨rfl, rfl, rfl, rfl⟩
          have hvb := hs.vb
          rw [hN 50 (by decide), hN 62 (by decide), hN 35 (by decide)] at hvb
          obtain ⟨hs5, hkv5⟩ := ST.param (c' := c5) (m' := mSI m5 64 (nI u)) (mc2 := mc + 32 * d) (p := p) (s := mN m 56) (nm := wX w) hs (by rw [n64]; exact h39) hp3 (by rw [n64]; exact h46) (hN 56 (by decide)) hs12 fc5 (md_fr64 fm5) (fun j hj => by rw [n64] at hj; rw [v294, if_neg hj]) (fun j hj => by rw [n64] at hj; rw [v298, if_neg hj]) (by rw [n64, v294, if_pos rfl]) (by rw [n64, v298, if_pos rfl, t3, nI_1]) v134 (fun j hj => by rw [v132, if_neg hj]) (fun j hj => by rw [v133, if_neg hj]) (by rw [v132, if_pos rfl]) (by rw [v133, if_pos rfl, n64]; rfl) (fun j hj => by rw [n64] at hj; show mA m5 39 j = mA m 39 j; rw [u39, if_neg hj]) (by rw [n64]; show mA m5 39 u = _; rw [u39, if_pos rfl]) (by rw [hN 50 (by decide), mI_SIo (by decide)]; exact u50) (fun v hv => hvo v (by rw [hN 50 (by decide)] at hv; exact hv)) (by rw [hN 50 (by decide), n64]; show mA m5 51 (mN m 50) = _; rw [u51, if_pos rfl]) (by rw [hN 50 (by decide)]; show NR _ (mL m5 52 (mN m 50)); rw [u52, if_pos rfl]; exact hx) (by rw [hN 50 (by decide), n64]; show mA m5 53 (mN m 50) = nI (ub m u); rw [u53, if_pos rfl, hub]) (by rw [hN 50 (by decide)]; show mA m5 54 (mN m 50) = 0; rw [u54, if_pos rfl]) (by rw [mI_SIo (by decide)]; exact u56) (fun j hj => by show mA m5 57 j = mA m 57 j; rw [u57, if_neg hj]) (by rw [hN 50 (by decide)]; show mA m5 57 (mN m 56) = _; rw [u57, if_pos rfl]) (by omega) (by rw [hN 50 (by decide), hN 62 (by decide), hN 35 (by decide)]; omega)
          have hub5 : ub m5 u = off + (p + 1) := by
            have e36 : mA m5 36 u = mA m 36 u := md_frA fm5 (by decide) u
            unfold ub at hub ⊢
            rw [aN_of h39 (by omega)] at hub
            rw [e36, aN_of (by rw [u39, if_pos rfl]) (show p + 1 < 2 ^ 31 by omega)]
            omega
          have hpf : mI m5 7 = mI m 7 → PF u c c5 m m5 := fun h7 => by
            refine ⟨fc5, fm5, fun j hj => ⟨by rw [v294, if_neg hj], by rw [v298, if_neg hj], by rw [u39, if_neg hj]⟩, fun v hv => ⟨hvo v hv, hkv5 v (by rw [hN 50 (by decide)]; exact hv)⟩, by omega, fun j hj => by rw [u57, if_neg (by omega)], by omega, fun j h1 h2 => ?_, h7⟩
            have : j = mN m 56 := by omega
            exact ⟨mN m 50, by omega, by rw [u57, if_pos this], aN_of (by rw [u51, if_pos rfl]) (by omega)⟩
          obtain ⟨jj, rfl⟩ : ∃ q, jj = q + 1 := ⟨jj - 1, by omega⟩
          obtain ⟨j2, rfl⟩ : ∃ q, j2 = q + 1 := ⟨j2 - 1, by omega⟩
          rcases a5 with hX5 | ⟨hbw, hnf⟩
          · have h7 : mI m5 7 = mI m 7 := by rw [a6 hX5.fine, md_frI fm4 (by decide)]
            have hpf5 := hpf h7
            rw [hX5.k.1, m_isSign hX5.fine hX5.mw sg44, bs_some]
            dsimp only
            by_cases hk44 : wK w5 = 44
            · rw [if_pos hk44, if_pos hk44, if_neg ne10, if_neg ne10]
              obtain ⟨c6, m6, g1, g2, g3, g4, ⟨w6', L6, hL6, g5⟩, g6⟩ := adv_ok (n := n) hn hX5 (by rw [hk44]; decide)
              rw [g1, bs_some, g2, bs_some]
              dsimp only
              have hc6 : CI C c0 b c6 b := hc5.fr g3 (by decide)
              have hm6 : MI m0 m6 := hm5.fr g4 (by decide)
              rcases g5 with hX6 | ⟨hbw, hnf⟩
              · have h76 := g6 hX6.fine
                have hs6 : ST c6 (mSI m6 64 (nI u)) O (mc + 32 * d) k kl := hs5.adv g3 (md_fr64 g4)
                obtain ⟨y, k1, k2, k3 | ⟨pl, k3, k4⟩ | k3⟩ := ih (jj + 1) (j2 + 1) (p + 1) c6 b m6 w6' L6 (by omega) (by omega) (by omega) hc6 hm6 hX6 hs6 (by rw [md_frA g4 (by decide), u39, if_pos rfl]) (by rw [md_frA g4 (by decide), md_frA fm5 (by decide)]; exact h46) (by
                  have e36 : mA m6 36 u = mA m5 36 u := md_frA g4 (by decide) u
                  have e39' : mA m6 39 u = mA m5 39 u := md_frA g4 (by decide) u
                  unfold ub aN at hub5 ⊢
                  rw [e36, e39']; exact hub5) (by rw [mN_fr g4 (by decide)]; omega)
                · obtain ⟨r, r1, r2, mm, p', w9, L9, r3, r4, r5, r6, r7, r8, r9, r10, r11⟩ := k3
                  refine ⟨y, k1, k2, Or.inl ⟨r, r1, r2, mm, p', w9, L9, r3, r4, r5, ?_, r7, r8, r9, r10, (hpf5.tr (PF.fr g3 g4 h76)).tr r11⟩⟩
                  rw [hL5, hL6]; simp; omega
                · refine ⟨y, k1, k2, Or.inr (Or.inl ⟨pl, k3, k4⟩)⟩
                · exact ⟨y, k1, k2, Or.inr (Or.inr k3)⟩
              · obtain ⟨c', b', e1, e2⟩ := c_needName0 (n := n) hC hc6.1 hbw.2 (by rw [hbw.1]; decide)
                refine ⟨Sum.inr (m6, 1), ?_, hm6, Or.inr (Or.inl ⟨wF w6', Or.inr ⟨c', b', ?_, e2.tx hc6⟩, hnf⟩)⟩
                · rw [u_X12_parameters_L31, if_neg ne10, nf_isName hnf, bs_some]; rfl
                · rw [u_X4_readParameters_L25, if_neg ne10, if_neg (show ¬ (3 : Int32) < nI (p + 1) from fun y => absurd ((nI_ltI (a := 3) (by decide) (by omega)).mp y) (by omega)), e1, bs_some]
                  exact ckx_inl rfl (ble.refl _)
            · rw [if_neg hk44, if_neg hk44, if_pos rfl, if_pos rfl]
              refine ⟨Sum.inr (m5, 0), by rw [u_X12_parameters_L31, if_pos rfl], hm5, Or.inl ⟨_, by rw [u_X4_readParameters_L25, if_pos rfl], hc5, m5, p + 1, w5, L5, rfl, rfl, hX5, by rw [hL5]; simp, by omega, by rw [u39, if_pos rfl], by rw [v294, if_pos rfl], ?_, hpf5⟩⟩
              have hvb5 := hs5.vb
              exact hs5.shift (Nat.le_refl _) hvb5.2 (by omega) (by omega)
          · rw [hbw.1, if_neg (by decide), if_pos rfl, nf_isSign hnf, bs_some]
            dsimp only
            rw [if_pos rfl]
            refine ⟨Sum.inr (m5, 0), by rw [u_X12_parameters_L31, if_pos rfl], hm5, Or.inr (Or.inl ⟨wF w5, Or.inl ⟨_, by rw [u_X4_readParameters_L25, if_pos rfl], hc5, hbw, trivial⟩, hnf⟩)⟩
    · obtain ⟨c', b', e1, e2⟩ := c_needName0 (n := n) hC hc.1 h.k.2.1 (by rw [h.k.1]; exact hk)
      refine outx_thr (y := Sum.inr (m4, 1)) e1 e2 hc (ble.refl _) ?_ (hm.fr hf1 (by decide)) hn1
      rw [hm1, bs_some]
      rfl
