/-! operations with two operands, in step -/
theorem ST.now {c : cd_S} {m : md_S} {O : List Nat} {mc k kl : Nat} (h : ST c m O mc k kl) : mN m 64 < mN m 35 ∧ mN m 64 < 60 ∧ cP c 136 0 = mN m 64 + 1 ∧ cd_dp c 136 0 = some (mN m 64) ∧ mI m 64 = nI (mN m 64) ∧ rsz c (17 + 3 * mN m 64) + 3 * k ≤ 9900 ∧ mI m 65 = nI (mN m 65) ∧ mI m 50 = nI (mN m 50) := by
  obtain ⟨-, hn35, -, -, c1, c2, -⟩ := h.nv
  obtain ⟨⟨x1, x2, x3, x4, x5, x6, x7, x8, x9⟩, ⟨b1, b2, b3, b4, b5⟩, ⟨d1, d2, d3, d4, d5, d6⟩, e, f, g, i1, i2, i3, i4, i5, i6, i7, i10, i11⟩ := h
  refine ⟨i10, by omega, b4, c_now b4 (by omega), b5, ?_, d1, d3⟩
  have := (x9 (mN m 64) (by omega)).1
  omega
theorem GR.n64 {c c' : cd_S} {m m' : md_S} (h : GR c c' m m') : mN m' 64 = mN m 64 := by
  obtain ⟨-, -, -, -, -, -, i, -⟩ := h
  rw [mN, mN, i]
theorem GR.n63 {c c' : cd_S} {m m' : md_S} (h : GR c c' m m') : mI m' 63 = mI m 63 := by
  obtain ⟨-, -, -, -, -, -, -, j, -⟩ := h
  exact j
theorem GR.n35 {c c' : cd_S} {m m' : md_S} (h : GR c c' m m') : mN m 35 ≤ mN m' 35 := h.2.1.2.2.2.2.1
/-- left operand read, operator seen -/
theorem op_ok {n : Nat} {C : Nat × Nat} {B : Nat → Int32} {N : Nat} {c0 c c1 : cd_S} {m0 m m1 : md_S} {b : cd_B} {w : WD} {L : List WD} {O : List Nat} {mc k0 kl0 k kl f r l0 l1 : Nat} {es : List EN} {ns : List Nat} {t : Int32} {ω : Nat → Nat × Nat} {gr : Nat} (hC : BC C) (hn : 5000 ≤ n) (hc : CI C c0 b c1 b) (hm : MI m0 m1) (h : LX B N c1 m1 w L) (hk : wK w ≠ 0) (hs0 : ST c m O mc k0 kl0) (hs : ST c1 m1 O mc k kl) (hkl : kl < 40) (hg : GR c c1 m m1) (hr : Gen m1 (mN m 64) f r l0 l1 es ns) (hb : NB m1 O (mN m 65) (mN m 35) ns) (h71 : mA m1 71 r = -1) (hcv : CV m1 O (mN m 64) (mN m 65) (mN m 35) ns) (hgr : 0 < (ω 0).1 → GW m1 gr r (ω 0).1 (ω 0).2) :
    (∃ c' b' m', f_X4_part n c1 b = some (Sum.inr (c', b')) ∧ f_X12_operation n m1 t (nI r) = some (0, m') ∧ THR C c1 c' b b' 4 (wF w) ∧ MI m0 m' ∧ NF m' 4 (wF w)) ∨
    (∃ c2 c3 m5 i w' L', f_X4_part n c1 b = some (Sum.inl (0, c2, b)) ∧ f_X10_advance n c2 = some (0, c3) ∧ f_X12_operation n m1 t (nI r) = some (nI i, m5) ∧ L = w' :: L' ∧ i < 900 ∧ CI C c0 b c3 b ∧ MI m0 m5 ∧ cN c 66 ≤ cN c3 66 ∧ CS c3 (k + 6) ∧
      ((LX B N c3 m5 w' L' ∧ PT ω m5 O (mN m 64) i l0 l1 (mN m 65) (mN m 35) [r] [es] ns ∧ mA m5 66 i = t ∧ mA m5 68 i = 0 ∧ mA m5 69 i = 0 ∧ ST c3 m5 O mc (k + 6) kl ∧ GR c c3 m m5 ∧ mN m1 62 < mN m5 62 ∧ rL c3 (17 + 3 * mN m 64) = rL c1 (17 + 3 * mN m 64) ∧ cI c3 302 (mN m 64) = cI c1 302 (mN m 64) ∧ CV m5 O (mN m 64) (mN m 65) (mN m 35) (i :: ns)) ∨ (BW c3 (wF w') ∧ NF m5 1 (wF w')))) := by
  obtain ⟨q62, q35, q50, q65, -, -, y62, -, z138, -⟩ := hs.nv
  obtain ⟨w1, w2, w3, w4, w5, w6, w7, w8⟩ := hs.now
  have n64 := hg.n64
  rcases part_ok (n := n) hC hc.1 h q62 z138 y62 with ⟨hp, e1, e2⟩ | ⟨c', b', m', e1, e2, e3, e4, e5⟩
  · right
    have hs1 : ST c1 m1 O mc k (kl + 1) := hs.debt (by omega) (by omega) (Nat.le_refl _)
    obtain ⟨hs2, hnd⟩ := hs1.part hp
    obtain ⟨c2, hc2⟩ : ∃ c2, c2 = cSI c1 138 0 (nI (mN m1 62 + 1)) := ⟨_, rfl⟩
    obtain ⟨m2, hm2⟩ : ∃ m2, m2 = mSI m1 62 (nI (mN m1 62 + 1)) := ⟨_, rfl⟩
    rw [← hc2, ← hm2] at hs2
    rw [← hc2] at e1
    rw [← hm2] at e2
    have fc2 : cd_fr [138] [] c1 c2 := by rw [hc2]; exact cd_fr_SI (cd_fr_refl _ _ _) (by decide) (by decide) _ _
    have fm2 : md_fr [62] m1 m2 := by rw [hm2]; exact md_fr_SI (md_fr_refl _ _) (by decide) _
    have hg2 : GR c c2 m m2 := GR.tr hs0 hg (by rw [hc2, hm2]; exact GR.part q35 rfl hp)
    have n62 : mN m2 62 = mN m1 62 + 1 := by rw [hm2]; exact mN_of mI_SIe (by omega)
    have o65 : mN m2 65 = mN m1 65 := mN_fr fm2 (by decide)
    have o64 : mN m2 64 = mN m1 64 := mN_fr fm2 (by decide)
    have o35 : mN m2 35 = mN m1 35 := mN_fr fm2 (by decide)
    have o50 : mN m2 50 = mN m1 50 := mN_fr fm2 (by decide)
    have i65 : mI m2 65 = nI (mN m1 65) := (md_frI fm2 (by decide)).trans w7
    -- the node
    obtain ⟨i, hi⟩ : ∃ i, i = mN m1 65 := ⟨_, rfl⟩
    rw [← hi] at i65
    have hi9 : i < 900 := by omega
    obtain ⟨m3, hm3⟩ : ∃ m3, m3 = ndm m2 i t 0 0 := ⟨_, rfl⟩
    have fm3 : md_fr [65, 66, 67, 68, 69, 70, 71, 72] m2 m3 := by rw [hm3]; exact ndm_fr _ _ _ _ _
    have n65 : mN m3 65 = i + 1 := by rw [hm3]; exact mN_of (ndm_65 _ _ _ _ _) (by omega)
    obtain ⟨k66, k67, k68, k69, k70, k71, k72⟩ : mA m3 66 i = t ∧ mA m3 67 i = mI m2 64 ∧ mA m3 68 i = 0 ∧ mA m3 69 i = 0 ∧ mA m3 70 i = -1 ∧ mA m3 71 i = -1 ∧ mA m3 72 i = -1 := by rw [hm3]; exact ndm_e _ _ _ _ _
    have ko : ∀ f j, j ≠ i → mA m3 f j = mA m2 f j := fun f j hj => by rw [hm3]; exact ndm_o hj
    have hpt : PT ω m3 O (mN m 64) i l0 l0 (mN m 65) (mN m 35) [] [] [] := by
      have : PT ω m3 O (mN m 64) i l0 l0 i (mN m 35) [] [] [] := by
        rw [hm3]
        exact PT.new i65 hi9 (by rw [md_frI fm2 (by decide), w5, n64])
      exact this.low (by have := hg.1.1; omega) (Nat.le_refl _)
    have fm13 : md_fr [62, 65, 66, 67, 68, 69, 70, 71, 72] m1 m3 := md_fr_tr fm2 fm3 (fun k hk => ⟨nin (by decide) hk, nin (by decide) hk⟩)
    have hr3 : Gen m3 (mN m 64) f r l0 l1 es ns := hr.nd hb q35 (by omega) fm13 (by decide) (fun j hj => by
      have hne : j ≠ i := by omega
      exact ⟨(ko 66 j hne).trans (md_frA fm2 (by decide) j), (ko 67 j hne).trans (md_frA fm2 (by decide) j), (ko 68 j hne).trans (md_frA fm2 (by decide) j), (ko 69 j hne).trans (md_frA fm2 (by decide) j), (ko 70 j hne).trans (md_frA fm2 (by decide) j), fun _ => ⟨(ko 71 j hne).trans (md_frA fm2 (by decide) j), (ko 72 j hne).trans (md_frA fm2 (by decide) j)⟩⟩)
    have hgr3 : 0 < (ω 0).1 → GW m3 gr r (ω 0).1 (ω 0).2 := fun h0 => hr.ndw hb fm13 (by decide) (fun j hj => by
      have hne : j ≠ i := by omega
      exact ⟨(ko 66 j hne).trans (md_frA fm2 (by decide) j), (ko 67 j hne).trans (md_frA fm2 (by decide) j), (ko 68 j hne).trans (md_frA fm2 (by decide) j), (ko 69 j hne).trans (md_frA fm2 (by decide) j), (ko 70 j hne).trans (md_frA fm2 (by decide) j), fun _ => ⟨(ko 71 j hne).trans (md_frA fm2 (by decide) j), (ko 72 j hne).trans (md_frA fm2 (by decide) j)⟩⟩) (hgr h0)
    have hri : r < i := by
      have := (hb.1 r hr.root.1 hr.root.2.1).2
      omega
    have hb3 : NB m3 O (mN m 65) (mN m 35) ns := hb.gr (by omega) (by rw [mN_fr fm13 (by decide)]; exact Nat.le_refl _)
    have hbb : NB m3 O (mN m 65) (mN m 35) (i :: ([] ++ ns)) := by
      have h1 := hpt.2.2.2.2.2
      refine ⟨fun j hj h9 => ?_, fun q hq => ?_, ?_, fun j hj => ?_⟩
      · rcases List.mem_cons.mp hj with q | q
        · rw [q]; exact h1.1 i (by simp) hi9
        · exact hb3.1 j q h9
      · rcases List.mem_cons.mp hq with q | q
        · omega
        · exact hb3.2.1 _ q
      · refine List.nodup_cons.mpr ⟨fun q => ?_, hb3.2.2.1⟩
        have := (hb.1 i q hi9).2
        omega
      · rcases List.mem_cons.mp hj with q | q
        · rw [q]; exact Or.inl hi9
        · exact hb3.2.2.2 j q
    have h63 : mI m3 6 = 0 := by rw [md_frI fm13 (by decide)]; exact h.fine
    have h71' : mA m3 71 r = -1 := (ko 71 r (by omega)).trans ((md_frA fm2 (by decide) r).trans h71)
    obtain ⟨m4, g1, g2, g3, g4, g5⟩ := PT.add (n := n) h63 (by omega) (by rw [mN_fr fm13 (by decide)]; exact q35) (by rw [mN_fr fm13 (by decide)]; omega) (by omega) hpt hr3 h71' hb3 hbb (by rw [← n64]; exact w2) hgr3
    have fm24 : md_fr [65, 66, 67, 68, 69, 70, 71, 72, 73] m2 m4 := md_fr_tr fm3 g3 (fun k hk => ⟨nin (by decide) hk, nin (by decide) hk⟩)
    have n65' : mN m4 65 = i + 1 := by rw [mN_fr g3 (by decide)]; exact n65
    have hst4 : ST c2 m4 O mc (k + 6) kl := by
      refine hs2.tree fm24 (by rw [n65', md_frI g3 (by decide), hm3]; exact ndm_65 _ _ _ _ _) (by omega) (by omega) (fun j hj hj67 => ?_) (fun j hj => ?_)
      · have hne : j ≠ i := by omega
        have hjr : j ≠ r := fun e => hj67 (by rw [e, md_frA fm2 (by decide), hr.root.2.2, o64, n64])
        exact ⟨(md_frA g3 (by decide) j).trans (ko 66 j hne), (md_frA g3 (by decide) j).trans (ko 67 j hne), (md_frA g3 (by decide) j).trans (ko 68 j hne), (md_frA g3 (by decide) j).trans (ko 69 j hne), (g4 j hne).trans (ko 70 j hne), ⟨(g5 j (by simp) hjr).1.trans (ko 71 j hne), (g5 j (by simp) hjr).2.trans (ko 72 j hne)⟩⟩
      · rw [md_frA g3 (by decide)]
        by_cases hji : j = i
        · rw [hji, k67, if_neg (by omega), md_frI fm2 (by decide), w5, o64]
        · rw [ko 67 j hji, if_pos (by omega)]
    have hg4 : GR c c2 m m4 := hg2.tree fm24 (by omega) (fun j hj => by
      have hne : j ≠ i := by have := hg.1.1; omega
      have hjr : j ≠ r := by have := (hb.1 r hr.root.1 hr.root.2.1).1; omega
      exact ⟨(md_frA g3 (by decide) j).trans (ko 66 j hne), (md_frA g3 (by decide) j).trans (ko 67 j hne), (md_frA g3 (by decide) j).trans (ko 68 j hne), (md_frA g3 (by decide) j).trans (ko 69 j hne), (g4 j hne).trans (ko 70 j hne), ⟨(g5 j (by simp) hjr).1.trans (ko 71 j hne), (g5 j (by simp) hjr).2.trans (ko 72 j hne)⟩⟩)
    have fm14 : md_fr [62, 65, 66, 67, 68, 69, 70, 71, 72, 73] m1 m4 := md_fr_tr fm2 fm24 (fun k hk => ⟨nin (by decide) hk, nin (by decide) hk⟩)
    have hcv4 : CV m4 O (mN m 64) (mN m 65) (mN m 35) (i :: ns) := hcv.add hi.symm n65' (by rw [md_frA g3 (by decide), k67, md_frI fm2 (by decide), w5, n64]) (fun j hj => by rw [md_frA g3 (by decide), ko 67 j (by omega), md_frA fm2 (by decide)]) (by rw [mN_fr fm14 (by decide)]; exact Nat.le_refl _)
    have hLX4 : LX B N c2 m4 w L := h.fr fc2 fm14 (by decide) (by decide) (by decide)
    obtain ⟨c3, m5, a1, a2, a3, a4, ⟨w', L', hL', a5⟩, a6⟩ := adv_ok (n := n) hn hLX4 hk
    have hCI3 : CI C c0 b c3 b := (hc.fr fc2 (by decide)).fr a3 (by decide)
    have hMI5 : MI m0 m5 := (hm.fr fm14 (by decide)).fr a4 (by decide)
    obtain ⟨hcs3, hcn3⟩ := CS.adv (show CS c2 (k + 6) from hst4.1) a3
    have hcn : cN c 66 ≤ cN c3 66 := by
      rw [hcn3, hst4.nv.2.2.2.2.2.1, hs0.nv.2.2.2.2.2.1]
      exact hg4.n35
    refine ⟨c2, c3, m5, i, w', L', e1, a1, ?_, hL', hi9, hCI3, hMI5, hcn, hcs3, ?_⟩
    · unfold f_X12_operation
      rw [e2, bs_some]
      dsimp only
      rw [if_neg ne10, m_node i65 hi9, bs_some, ← hm3]
      dsimp only
      rw [g1, bs_some]
      dsimp only
      rw [a2, bs_some]
    · rcases a5 with a5 | a5
      · left
        have hst5 : ST c3 m5 O mc (k + 6) kl := hst4.adv a3 a4
        have hgr5 : GR c2 c3 m4 m5 := GR.adv a3 a4 (by rw [mN_fr fm14 (by decide)]; exact q35) (a6 a5.fine)
        refine ⟨a5, g2.gr hgr5 hst4, ?_, ?_, ?_, hst5, GR.tr hs0 hg4 hgr5, ?_, ?_, ?_, (hcv4.fr a4 (by decide) (by decide) (by decide))⟩
        · rw [md_frA a4 (by decide), md_frA g3 (by decide)]; exact k66
        · rw [md_frA a4 (by decide), md_frA g3 (by decide)]; exact k68
        · rw [md_frA a4 (by decide), md_frA g3 (by decide)]; exact k69
        · rw [mN_fr a4 (by decide), mN_fr fm24 (by decide)]; omega
        · rw [rL_fr a3 (by simp), rL_fr fc2 (by simp)]
        · rw [cd_frI a3 (by decide) (by decide), cd_frI fc2 (by decide) (by decide)]
      · exact Or.inr a5
  · left
    refine ⟨c', b', m', e1, ?_, e3, hm.fr e4 (by decide), e5⟩
    unfold f_X12_operation
    rw [e2, bs_some]
    dsimp only
    rw [if_pos rfl]
theorem nf_operation {n : Nat} {m : md_S} {k pl : Nat} {t x : Int32} (h : NF m k pl) : ∃ m', f_X12_operation n m t x = some (0, m') ∧ md_fr [62] m m' ∧ NF m' k pl := by
  obtain ⟨m', e1, e2, e3⟩ := nf_part (n := n) h
  refine ⟨m', ?_, e2, e3⟩
  unfold f_X12_operation
  rw [e1, bs_some]
  rfl
theorem cmb_op {m : md_S} {i l0 : Nat} {t : Int32} {ess : List (List EN)} (h : mA m 66 i = t) (ht : t ≠ 40 ∧ t ≠ 41 ∧ t ≠ 19 ∧ t ≠ 42 ∧ t ≠ 2 ∧ t ≠ 9 ∧ t ≠ 10) : cmb m i l0 ess = ess.flatten ++ [(t, mA m 68 i, mA m 69 i)] ∧ lb (mA m 66 i) = 0 ∧ um m i = [] := by
  obtain ⟨h1, h2, h3, h4, h5, h6, h7⟩ := ht
  unfold cmb lb um
  rw [h, if_neg h1, if_neg h2, if_neg h3, if_neg h4, if_neg h5, if_neg (fun q => q.elim h6 h7), if_neg h2, if_neg h3, if_neg (fun q => q.elim h6 h7)]
  exact ⟨rfl, rfl, rfl⟩
/-- a last child is read, and the class emits -/
theorem last_ok {n : Nat} {C : Nat × Nat} {B : Nat → Int32} {N : Nat} {c0 c c3 c6 : cd_S} {m0 m m5 m6 : md_S} {b b6 : cd_B} {v x2 t a bb : Int32} {L L3 : List WD} {O : List Nat} {mc k0 kl0 k kl l0 l1 i : Nat} {ch : List Nat} {ess : List (List EN)} {ns : List Nat} {ω : Nat → Nat × Nat} {pw pwr : Nat} (hC : BC C) (hn : 5000 ≤ n) (hc : CI C c0 b c6 b6) (hm : MI m0 m6) (hs0 : ST c m O mc k0 kl0) (ht : t ≠ 40 ∧ t ≠ 41 ∧ t ≠ 19 ∧ t ≠ 42 ∧ t ≠ 2 ∧ t ≠ 9 ∧ t ≠ 10) (hpt : PT ω m5 O (mN m 64) i l0 l1 (mN m 65) (mN m 35) ch ess ns) (k66 : mA m5 66 i = t) (k68 : mA m5 68 i = a) (k69 : mA m5 69 i = bb) (hw : ∀ q : md_S, mA q 66 i = t → mA q 68 i = a → mA q 69 i = bb → KP m5 q → WFN q i (ch.length + 1)) (hs5 : ST c3 m5 O mc (k + 6) kl) (hg : GR c c3 m m5) (h0 : cI c 302 (mN m 64) = nI l0) (h1 : cI c3 302 (mN m 64) = nI l1) (hl0 : l0 ≤ 1000) (hl1 : l1 ≤ 1000) (hL : rL c3 (17 + 3 * mN m 64) = rL c (17 + 3 * mN m 64) ++ fE ess.flatten) (hp : mN m 62 < mN m5 62) (hLL : L3.length < L.length) (hcv : CV m5 O (mN m 64) (mN m 65) (mN m 35) (i :: ns)) (hωc : mN m 63 ≤ 24 → (ω ch.length).1 = wB (mN m 63) - pw ∧ (ω ch.length).2 = 25 - mN m 63 - pw / 6) (hω0 : ¬ mN m 63 ≤ 24 → (ω ch.length).1 = 0) (hωf : mN m 63 ≤ 24 → ∀ k, k < ch.length + 1 → 0 < (ω k).1 ∧ (ω k).1 + k ≤ wB (mN m 63) - pwr ∧ (ω k).2 ≤ 25 - mN m 63 - pwr / 6) (hpwr : pwr < 6) (hE : EOk pw B N c3 m5 O mc (k + 6) kl L3 v c6 b6 x2 m6) :
    ∃ b7 m7, cd_dp c6 136 0 = some (mN m 64) ∧ f_X9_emit n c6 b6 (mN m 64) t a bb = some (0, em c6 (mN m 64) t a bb, b7) ∧ f_X12_gets n m6 (nI i) x2 = some (0, m7) ∧ ble b7 b6 ∧ CI C c0 b7 (em c6 (mN m 64) t a bb) b7 ∧ MI m0 m7 ∧ EOk pwr B N c m O mc k kl L 0 (em c6 (mN m 64) t a bb) b7 (nI i) m7 ∧ ∃ w' L', LX B N (em c6 (mN m 64) t a bb) m7 w' L' ∧ L'.length < L3.length := by
  obtain ⟨⟨w', L', hX, hl⟩, hs6, hg6, hp6, f2, r2, es2, l0', l2, n2, rfl, y0, y1, yb0, yb1, ⟨hG2, hW2⟩, hb2, h71, hL6, hcv6⟩ := hE
  have n64 := hg.n64
  have n64' := hg6.n64
  rw [n64] at y0 y1 hG2 hL6 hcv6
  obtain rfl : l0' = l1 := (nI_eq (by omega) (by omega)).mp (y0.symm.trans h1)
  obtain ⟨q62, q35, q50, q65, -⟩ := hs6.nv
  obtain ⟨w1, w2, w3, w4, w5, w6, w7, w8⟩ := hs6.now
  have hu : mN m6 64 = mN m 64 := n64'.trans n64
  rw [hu] at w1 w2 w3 w4 w5 w6
  have hi9 := hpt.1
  have hi5 : i < mN m5 65 := (hpt.2.2.2.2.2.1 i (by simp) hi9).2
  have hi0 : mN m 65 ≤ i := (hpt.2.2.2.2.2.1 i (by simp) hi9).1
  obtain ⟨z1, z2, z3, z4, z5, z6⟩ := hg6.1.2 i hi5
  have hpt6 := hpt.gr hg6 hs5
  have hbb : NB m6 O (mN m 65) (mN m 35) (i :: (ns ++ n2)) := by
    have := NB.app hpt6.2.2.2.2.2 hb2 hg.1.1 hg.n35 (fun j hj h9 => (hpt.2.2.2.2.2.1 j hj h9).2) (fun q hq => (hpt.2.2.2.2.2.2.1 q hq).2.1)
    exact this
  have e63 : mN m5 63 = mN m 63 := by rw [mN, mN, hg.n63]
  obtain ⟨gx, hgx⟩ : ∃ gx, 0 < (ω ch.length).1 → GW m6 gx r2 (ω ch.length).1 (ω ch.length).2 := by
    by_cases h24 : mN m 63 ≤ 24
    · obtain ⟨g, hg'⟩ := hW2.2 (by omega)
      rw [e63] at hg'
      obtain ⟨o1, o2⟩ := hωc h24
      exact ⟨g, fun _ => by rw [o1, o2]; exact hg'⟩
    · exact ⟨0, fun y => by rw [hω0 h24] at y; exact absurd y (by decide)⟩
  obtain ⟨m7, g1, g2, g3, g4, g5⟩ := PT.add (n := n) hX.fine (by omega) q35 (by omega) (by omega) hpt6 hG2 h71 hb2 hbb (by omega) hgx
  have f7 : md_fr [65, 66, 67, 68, 69, 70, 71, 72, 73] m6 m7 := md_fr_mono g3 (by decide)
  have hch : ∀ j, j ∈ ch → mA m6 67 j = nI (mN m 64) ∧ mN m 65 ≤ j := by
    intro j hj
    obtain ⟨f, hf, -⟩ := hpt6.2.2.2.2.1
    have hjn := GL.mem hf j hj
    have hj9 : j < 900 := by
      have : ∀ (l : List Nat) (v : Int32), SB m6 v l → j ∈ l → j < 900 := by
        intro l
        induction l with
        | nil => intro v _ hv; exact absurd hv (by simp)
        | cons y l ih =>
          intro v hv hx
          rcases List.mem_cons.mp hx with rfl | hx
          · exact hv.2.1
          · exact ih _ hv.2.2 hx
      exact this _ _ hpt6.2.2.2.1.1 hj
    exact ⟨GL.unit (fun g => Gen.unit g) hf j hjn hj9, (hpt.2.2.2.2.2.1 j (List.mem_cons_of_mem _ hjn) hj9).1⟩
  have hst7 : ST c6 m7 O mc (k + 6) kl := by
    refine hs6.tree f7 (by rw [md_frI g3 (by decide), mN_fr g3 (by decide)]; exact w7) (by rw [mN_fr g3 (by decide)]; exact Nat.le_refl _) (by rw [mN_fr g3 (by decide)]; exact hs6.2.2.1.2.1) (fun j hj h67 => ?_) (fun j hj => by rw [mN_fr g3 (by decide)] at hj; rw [md_frA g3 (by decide), if_pos hj])
    have hne : j ≠ i := fun e => h67 (by rw [e, hpt6.2.1, hu])
    have hnc : j ∉ ch := fun e => h67 (by rw [(hch j e).1, hu])
    have hjr : j ≠ r2 := fun e => h67 (by rw [e, hG2.root.2.2, hu])
    exact ⟨md_frA g3 (by decide) j, md_frA g3 (by decide) j, md_frA g3 (by decide) j, md_frA g3 (by decide) j, g4 j hne, g5 j hnc hjr⟩
  have hg7 : GR c c6 m m7 := (GR.tr hs0 hg hg6).tree f7 (by rw [mN_fr g3 (by decide)]; exact Nat.le_refl _) (fun j hj => by
    have hne : j ≠ i := by omega
    have hnc : j ∉ ch := fun e => by have := (hch j e).2; omega
    have hjr : j ≠ r2 := by have := (hb2.1 r2 hG2.root.1 hG2.root.2.1).1; have := hg.1.1; omega
    exact ⟨md_frA g3 (by decide) j, md_frA g3 (by decide) j, md_frA g3 (by decide) j, md_frA g3 (by decide) j, g4 j hne, g5 j hnc hjr⟩)
  obtain ⟨b7, e1, e2, e3⟩ := c_emit (n := n) (x := t) (y := a) (z := bb) hC hc.1 w2 (by omega)
  have n7 : mN m7 64 = mN m 64 := by rw [mN_fr g3 (by decide), hu]
  have hste : ST (em c6 (mN m 64) t a bb) m7 O mc k kl := by
    have := ST.emit (k := k + 5) (x := t) (y := a) (z := bb) hst7
    rw [n7] at this
    exact this.debt (Nat.le_refl _) (by have := hs6.2.2.1.2.2.2.2.1; omega) (by omega)
  have hge : GR c (em c6 (mN m 64) t a bb) m m7 := hg7.em
  have j66 : mA m7 66 i = t := by rw [md_frA g3 (by decide), z1]; exact k66
  have j68 : mA m7 68 i = a := by rw [md_frA g3 (by decide), z3]; exact k68
  have j69 : mA m7 69 i = bb := by rw [md_frA g3 (by decide), z4]; exact k69
  obtain ⟨u1, u2, u3⟩ := cmb_op (l0 := l0) (ess := ess ++ [es2]) j66 ht
  have hwf : WFN m7 i (ch ++ [r2]).length := by
    rw [List.length_append]
    exact hw m7 j66 j68 j69 (hg6.2.1.tr (KP.fr g3 (by decide)))
  obtain ⟨F, hF, hFw⟩ := PT.gen (l0 := l0) (by rw [u2]; exact g2) u3 hwf
  have hB11 := wB_ge (t := mN m 63)
  have hWr : WK pwr m m7 i := ⟨fun y => by omega, fun h24 => ⟨F, hFw _ _ (by omega) (fun k hk => by
    rw [List.length_append] at hk
    obtain ⟨o1, o2, o3⟩ := hωf h24 k hk
    have p1 : pnd (mA m7 66 i) k ≤ k := by unfold pnd; split <;> omega
    have p2 : tmk (mA m7 66 i) k = 0 := by unfold tmk; rw [if_neg (fun y => ht.2.2.1 (j66.symm.trans y.1))]
    exact ⟨o1, by omega, by omega⟩)⟩⟩
  have hXe : LX B N (em c6 (mN m 64) t a bb) m7 w' L' := hX.fr (em_fr _ _ _ _ _) g3 (by simp) (fun x hx => by
    have hx : x = 0 ∨ x = 1 := by simpa using hx
    simp only [List.mem_singleton]
    omega) (by decide)
  refine ⟨b7, m7, w4, e1, g1, e3, (hc.em e2 e3 w2).here, hm.fr g3 (by decide), ⟨⟨w', L', hXe, by omega⟩, hste, hge, ?_, F, i, _, l0, l2, _, rfl, h0, ?_, hl0, yb1, ⟨hF, hWr⟩, g2.2.2.2.2.2, g2.2.2.1, ?_, (hcv.app hcv6 hg6 hg.n35).fr g3 (by decide) (by decide) (by decide)⟩, w', L', hXe, hl⟩
  · rw [mN_fr g3 (by decide)]; omega
  · rw [em_I (by decide)]; exact y1
  · rw [em_L (hc.1.1 _ (by omega)) w2 (by omega), hL6, hL, u1, j68, j69, List.flatten_append, fE_app, fE_app, fE_one]
    simp
/-- what the operands of an operation may want -/
def ω2 (m : md_S) (a b k : Nat) : Nat × Nat := if mN m 63 ≤ 24 then (wB (mN m 63) - (if k = 0 then a else b), 25 - mN m 63) else (0, 0)
theorem ω2_l {m m' : md_S} {a b pw r : Nat} (h : WK pw m m' r) (ha : a ≤ pw) : ∃ g, 0 < (ω2 m a b 0).1 → GW m' g r (ω2 m a b 0).1 (ω2 m a b 0).2 := by
  unfold ω2
  by_cases h24 : mN m 63 ≤ 24
  · rw [if_pos h24]
    obtain ⟨g, hg⟩ := h.2 h24
    exact ⟨g, fun _ => hg.le (by rw [if_pos rfl]; omega) (by show _ ≤ 25 - mN m 63; omega)⟩
  · rw [if_neg h24]
    exact ⟨0, fun y => absurd y (by decide)⟩
theorem ω2_c {m : md_S} {a b : Nat} (hb : b < 6) : (mN m 63 ≤ 24 → (ω2 m a b 1).1 = wB (mN m 63) - b ∧ (ω2 m a b 1).2 = 25 - mN m 63 - b / 6) ∧ (¬ mN m 63 ≤ 24 → (ω2 m a b 1).1 = 0) := by
  unfold ω2
  refine ⟨fun h => ?_, fun h => by rw [if_neg h]⟩
  rw [if_pos h]
  exact ⟨rfl, by show 25 - mN m 63 = _; omega⟩
theorem ω2_f {m : md_S} {a b pwr : Nat} (ha : pwr ≤ a) (hb : pwr + 1 ≤ b) (ha6 : a < 6) (hb6 : b < 6) : mN m 63 ≤ 24 → ∀ k, k < 1 + 1 → 0 < (ω2 m a b k).1 ∧ (ω2 m a b k).1 + k ≤ wB (mN m 63) - pwr ∧ (ω2 m a b k).2 ≤ 25 - mN m 63 - pwr / 6 := by
  intro h k hk
  have hB11 := wB_ge (t := mN m 63)
  unfold ω2
  rw [if_pos h]
  dsimp only
  by_cases h0 : k = 0
  · rw [if_pos h0]; omega
  · rw [if_neg h0]; omega
