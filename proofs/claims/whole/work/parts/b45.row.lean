/-! rows in braces, in step -/
theorem BN.go {c c' c2 : cd_S} {m m' m2 : md_S} {O O0 : List Nat} {mc k kl i k0 kl0 k2 kl2 mc0 : Nat} {t x y : Int32} {lc0 l0 l1 : Nat} {ch : List Nat} {ess : List (List EN)} {ns : List Nat} {pre : List EN} (h : BN c c' m m' O mc k kl i t x y lc0 l0 l1 ch ess ns pre) (hs0 : ST c m O0 mc0 k0 kl0) (hs2 : ST c2 m2 O mc k2 kl2) (hg : GR c' c2 m' m2) (h302 : cI c2 302 (mN m 64) = cI c' 302 (mN m 64)) (hL : rL c2 (17 + 3 * mN m 64) = rL c' (17 + 3 * mN m 64)) (h65 : mN m2 65 = mN m' 65) : BN c c2 m m2 O mc k2 kl2 i t x y lc0 l0 l1 ch ess ns pre := by
  obtain ⟨a1, a2, a3, a4, a5, a6, a7, a8, a9, a10, a11, a12, a13⟩ := h
  have hi5 : i < mN m' 65 := (a3.2.2.2.2.2.1 i (by simp) a3.1).2
  obtain ⟨z1, z2, z3, z4, z5, z6⟩ := hg.1.2 i hi5
  have h62 : mN m' 62 ≤ mN m2 62 := by
    obtain ⟨-, -, -, -, -, -, -, -, -, -, -, -, r⟩ := hg
    exact r
  exact ⟨hs2, GR.tr hs0 a2 hg, a3.gr hg a1, z1.trans a4, z3.trans a5, z4.trans a6, by omega, a8, a9, h302.trans a10, a11, hL.trans a12, a13.gr hg h65⟩
/-- what begins before a step to the next word -/
theorem EOk.pre {pw : Nat} {B : Nat → Int32} {N : Nat} {c c1 c' : cd_S} {m m1 m' : md_S} {O : List Nat} {mc k kl k0 kl0 : Nat} {L L1 : List WD} {v x : Int32} {b' : cd_B} (h : EOk pw B N c1 m1 O mc k kl L1 v c' b' x m') (hs0 : ST c m O mc k0 kl0) (hg : GR c c1 m m1) (h62 : mN m1 62 = mN m 62) (h65 : mN m1 65 = mN m 65) (h35 : mN m1 35 = mN m 35) (h302 : cI c1 302 (mN m 64) = cI c 302 (mN m 64)) (hL : rL c1 (17 + 3 * mN m 64) = rL c (17 + 3 * mN m 64)) (hl : L1.length < L.length) : EOk pw B N c m O mc k kl L v c' b' x m' := by
  obtain ⟨⟨w', L', hX, hl'⟩, hs, hg1, hp, f, r, es, l0, l1, ns, e, y0, y1, yb0, yb1, ⟨hG, hW⟩, hb, h71, hL', hcv⟩ := h
  rw [hg.n64] at y0 y1 hG hL' hcv
  rw [h65, h35] at hb hcv
  exact ⟨⟨w', L', hX, by omega⟩, hs, GR.tr hs0 hg hg1, by omega, f, r, es, l0, l1, ns, e, by rw [← h302]; exact y0, y1, yb0, yb1, ⟨hG, hW.to (by rw [mN, mN, hg.n63]) (fun q => q)⟩, hb, h71, by rw [hL', hL], hcv⟩
/-- a node around what was read -/
theorem BN.wrap {n : Nat} {B : Nat → Int32} {N : Nat} {c c2 : cd_S} {m m2 : md_S} {O : List Nat} {mc k kl k0 kl0 kl2 : Nat} {L : List WD} {t x y v r0 : Int32} {b : cd_B} {pw : Nat} (hn : 5000 ≤ n) (hs0 : ST c m O mc k0 kl0) (hkl : kl ≤ kl2) (hkl2 : kl2 ≤ 40) (h : EOk pw B N c m O mc k kl L v c2 b r0 m2) (hpw3 : 3 ≤ pw) (hpw6 : t = 19 ∨ t = 42 → 6 ≤ pw) (hbn : mN m2 65 + 1 ≤ 2 * mN m2 62 + kl2) :
    ∃ i lc0 l1 r es ns m3 m4, i < 900 ∧ f_X12_node n m2 t x y = some (nI i, m3) ∧ f_X12_gets n m3 (nI i) r0 = some (0, m4) ∧ BN c c2 m m4 O mc k kl2 i t x y lc0 lc0 l1 [r] [es] ns es ∧ md_fr [65, 66, 67, 68, 69, 70, 71, 72] m2 m4 := by
  obtain ⟨⟨w', L', hX, hl'⟩, hs, hg, hp, f, r, es, l0, l1, ns, rfl, y0, y1, yb0, yb1, ⟨hG, hW⟩, hb, h71, hL', hcv⟩ := h
  obtain ⟨q62, q35, q50, q65, -⟩ := hs.nv
  obtain ⟨w1, w2, w3, w4, w5, w6, w7, w8⟩ := hs.now
  have n64 := hg.n64
  obtain ⟨i, hi⟩ : ∃ i, i = mN m2 65 := ⟨_, rfl⟩
  rw [← hi] at w7
  have hi9 : i < 900 := by omega
  have f3 := ndm_fr m2 i t x y
  have n65 : mN (ndm m2 i t x y) 65 = i + 1 := mN_of (ndm_65 _ _ _ _ _) (by omega)
  obtain ⟨k66, k67, k68, k69, -⟩ := ndm_e m2 i t x y
  have hpt : PT (ωB m t) (ndm m2 i t x y) O (mN m 64) i l0 l0 (mN m 65) (mN m 35) [] [] [] := (PT.new (un0 := mN m 35) w7 hi9 (by rw [w5, n64])).low (by have := hg.1.1; omega) (Nat.le_refl _)
  have hG3 : Gen (ndm m2 i t x y) (mN m 64) f r l0 l1 es ns := hG.nd hb q35 (by omega) f3 (by decide) (fun j hj => ⟨ndm_o (by omega), ndm_o (by omega), ndm_o (by omega), ndm_o (by omega), ndm_o (by omega), fun _ => ⟨ndm_o (by omega), ndm_o (by omega)⟩⟩)
  have hb3 : NB (ndm m2 i t x y) O (mN m 65) (mN m 35) ns := hb.gr (by omega) (by rw [mN_fr f3 (by decide)]; exact Nat.le_refl _)
  have hbb : NB (ndm m2 i t x y) O (mN m 65) (mN m 35) (i :: ([] ++ ns)) := by
    have h1 := hpt.2.2.2.2.2
    refine ⟨fun j hj h9 => ?_, fun q hq => ?_, ?_, fun j hj => ?_⟩
    · rcases List.mem_cons.mp hj with q | q
      · rw [q]; exact h1.1 i (by simp) hi9
      · exact hb3.1 j q h9
    · rcases List.mem_cons.mp hq with q | q
      · omega
      · exact hb3.2.1 _ q
    · refine List.nodup_cons.mpr ⟨fun q => ?_, hb3.2.2.1⟩
      have := (hb.1 i q hi9).2
      omega
    · rcases List.mem_cons.mp hj with q | q
      · rw [q]; exact Or.inl hi9
      · exact hb3.2.2.2 j q
  have hr : r < i := by
    have := (hb.1 r hG.root.1 hG.root.2.1).2
    omega
  obtain ⟨gx, hgx⟩ := hW.om (m := m) (k := 0) (t := t) rfl hpw3 (fun y => y.elim (fun z => absurd rfl z) hpw6)
  have hgx3 : 0 < (ωB m t 0).1 → GW (ndm m2 i t x y) gx r (ωB m t 0).1 (ωB m t 0).2 := fun h0 => hG.ndw hb f3 (by decide) (fun j hj => ⟨ndm_o (by omega), ndm_o (by omega), ndm_o (by omega), ndm_o (by omega), ndm_o (by omega), fun _ => ⟨ndm_o (by omega), ndm_o (by omega)⟩⟩) (hgx h0)
  obtain ⟨m4, g1, g2, g3, g4, g5⟩ := PT.add (n := n) (by rw [md_frI f3 (by decide)]; exact hX.fine) (by omega) (by rw [mN_fr f3 (by decide)]; exact q35) (by rw [mN_fr f3 (by decide)]; omega) (by omega) hpt hG3 (by rw [ndm_o (by omega)]; exact h71) hb3 hbb (by omega) hgx3
  have f24 : md_fr [65, 66, 67, 68, 69, 70, 71, 72, 73] m2 m4 := md_fr_tr f3 g3 (fun k hk => ⟨nin (by decide) hk, nin (by decide) hk⟩)
  have n65' : mN m4 65 = i + 1 := by rw [mN_fr g3 (by decide)]; exact n65
  refine ⟨i, l0, l1, r, es, ns, _, m4, hi9, m_node w7 hi9, g1, ⟨?_, ?_, g2, ?_, ?_, ?_, ?_, y0, yb0, y1, yb1, hL', (hcv.add hi.symm n65 (by rw [k67, w5, n64]) (fun j hj => ndm_o (by omega)) (by rw [mN_fr f3 (by decide)]; exact Nat.le_refl _)).fr g3 (by decide) (by decide) (by decide)⟩, md_fr_tr f3 g3 (fun k hk => ⟨nin (by decide) hk, nin (by decide) hk⟩)⟩
  · refine (hs.debt hkl hkl2 (Nat.le_refl k)).tree f24 (by rw [n65', md_frI g3 (by decide)]; exact ndm_65 _ _ _ _ _) (by omega) (by omega) (fun j hj hj67 => ?_) (fun j hj => ?_)
    · have hne : j ≠ i := by omega
      have hjr : j ≠ r := fun e => hj67 (by rw [e, hG.root.2.2, n64])
      exact ⟨(md_frA g3 (by decide) j).trans (ndm_o hne), (md_frA g3 (by decide) j).trans (ndm_o hne), (md_frA g3 (by decide) j).trans (ndm_o hne), (md_frA g3 (by decide) j).trans (ndm_o hne), (g4 j hne).trans (ndm_o hne), ⟨(g5 j (by simp) hjr).1.trans (ndm_o hne), (g5 j (by simp) hjr).2.trans (ndm_o hne)⟩⟩
    · rw [md_frA g3 (by decide)]
      by_cases hji : j = i
      · rw [hji, k67, if_neg (by omega), w5]
      · rw [ndm_o hji, if_pos (by omega)]
  · refine hg.tree f24 (by omega) (fun j hj => ?_)
    have hne : j ≠ i := by have := hg.1.1; omega
    have hjr : j ≠ r := by have := (hb.1 r hG.root.1 hG.root.2.1).1; omega
    exact ⟨(md_frA g3 (by decide) j).trans (ndm_o hne), (md_frA g3 (by decide) j).trans (ndm_o hne), (md_frA g3 (by decide) j).trans (ndm_o hne), (md_frA g3 (by decide) j).trans (ndm_o hne), (g4 j hne).trans (ndm_o hne), ⟨(g5 j (by simp) hjr).1.trans (ndm_o hne), (g5 j (by simp) hjr).2.trans (ndm_o hne)⟩⟩
  · rw [md_frA g3 (by decide)]; exact k66
  · rw [md_frA g3 (by decide)]; exact k68
  · rw [md_frA g3 (by decide)]; exact k69
  · rw [mN_fr f24 (by decide)]; exact hp
theorem rowE_snoc {ess : List (List EN)} {es : List EN} (h : ess ≠ []) : rowE (ess ++ [es]) = rowE ess ++ [((16 : Int32), (0 : Int32), (0 : Int32))] ++ es := by
  cases ess with
  | nil => exact absurd rfl h
  | cons e r =>
    show e ++ (r ++ [es]).flatMap _ = _
    rw [List.flatMap_append]
    simp [rowE]
theorem sg59 : ∀ k, k ∈ vks → ((mWd k = 5 ∧ mVl k = 59) ↔ k = 59) := by decide
theorem sg125 : ∀ k, k ∈ vks → ((mWd k = 5 ∧ mVl k = 125) ↔ k = 125) := by decide
theorem sg123 : ∀ k, k ∈ vks → ((mWd k = 5 ∧ mVl k = 123) ↔ k = 123) := by decide
theorem nf_rowL {n j : Nat} {rm : md_R} {m : md_S} {k pl : Nat} {x : Int32} (h : NF m k pl) : f_X12_row_L43 n rm x (j + 1) m = some m := by
  rw [u_X12_row_L43, nf_isSign h, bs_some]
  rfl
theorem bw_rowL {n j : Nat} {rc : cd_R} {a : Int32} {c : cd_S} {b : cd_B} {pl : Nat} {i : Int32} (h : BW c pl) : f_X4_readRow_L16 n rc a (j + 1) c b i = some (Sum.inr (c, b, i)) := by
  rw [u_X4_readRow_L16, h.1, if_neg (show ¬ (1 : Int32) = 59 by decide)]
  split <;> rfl
theorem rowL {n : Nat} {C : Nat × Nat} {B : Nat → Int32} {N : Nat} {rc : cd_R} {rm : md_R} {a : Int32} {dm kd : Nat} (hC : BC C) (hn : 5000 ≤ n) (hkd : kd ≤ 30) (hx : EX C B N (fun c b => rc 0 0 (a + 1) 0 c b) (fun m => rm 0 0 0 0 m) dm kd 6) (hnx : NFX (fun m => rm 0 0 0 0 m)) (hbx : BWX C (fun c b => rc 0 0 (a + 1) 0 c b))
    {c0 c : cd_S} {m0 m : md_S} {O : List Nat} {mc k kl k0 kl0 p lc0 : Nat} (hs0 : ST c m O mc k0 kl0) (h63 : mI m 63 = nI dm) (hkl : kl ≤ kd) : ∀ (d j j2 i : Nat) (c1 : cd_S) (b : cd_B) (m1 : md_S) (w : WD) (L1 : List WD) (l1 : Nat) (ch : List Nat) (ess : List (List EN)) (ns : List Nat), L1.length ≤ d → d < j → d < j2 → i + d < 3000 → CI C c0 b c1 b → MI m0 m1 → LX B N c1 m1 w L1 → BN c c1 m m1 O mc k (kl + 1) p 42 0 0 lc0 lc0 l1 ch ess ns (rowE ess) → 1 ≤ ch.length → ess.length = ch.length → (wK w = 59 ∨ (BN c c1 m m1 O mc k kl p 42 0 0 lc0 lc0 l1 ch ess ns (rowE ess) ∧ 2 ≤ ch.length)) →
    OUTL C c0 m0 b (f_X4_readRow_L16 n rc a (j + 1) c1 b (nI i)) (f_X12_row_L43 n rm (nI p) (j2 + 1) m1) (fun c' b' m' => ∃ w' L' l1 ch ess ns, LX B N c' m' w' L' ∧ L'.length ≤ L1.length ∧ BN c c' m m' O mc k kl p 42 0 0 lc0 lc0 l1 ch ess ns (rowE ess) ∧ 2 ≤ ch.length ∧ ess.length = ch.length) (fun c' _ => CS c' k ∧ cN c 66 ≤ cN c' 66) := by
  intro d
  induction d with
  | zero =>
    intro j j2 i c1 b m1 w L1 l1 ch ess ns hd hj hj2 hi hc hm h hbn hch hel hor
    have hL0 : L1 = [] := List.length_eq_zero_iff.mp (by omega)
    have hk0 : wK w = 0 := by
      obtain ⟨a1, a2, a3, a4, a5, a6, a7, a8, a9, a10, p, A, a11, ⟨t, rest⟩, a13⟩ := h
      rcases rest with ⟨-, z⟩ | ⟨z, -⟩
      · rcases z with z | z
        · exact z
        · have := a5.1; rw [z] at this; exact absurd this (by decide)
      · exact absurd hL0 z
    rcases hor with hor | ⟨hbn2, hch2⟩
    · rw [hk0] at hor; exact absurd hor (by decide)
    rw [u_X4_readRow_L16, if_neg (show ¬ (3000 : Int32) ≤ nI i from fun y => absurd ((nI_leI (a := 3000) (by decide) (by omega)).mp y) (by omega)), h.k.1, hk0, if_neg (show ¬ (0 : Int32) = 59 by decide), u_X12_row_L43, m_isSign h.fine h.mw sg59, bs_some, hk0, if_neg (show ¬ (0 : Int32) = 59 by decide)]
    exact ⟨m1, rfl, hm, Or.inl ⟨c1, b, nI i, rfl, hc, w, L1, l1, ch, ess, ns, h, Nat.le_refl _, hbn2, hch2, hel⟩⟩
  | succ d ih =>
    intro j j2 i c1 b m1 w L1 l1 ch ess ns hd hj hj2 hi hc hm h hbn hch hel hor
    rw [u_X4_readRow_L16, if_neg (show ¬ (3000 : Int32) ≤ nI i from fun y => absurd ((nI_leI (a := 3000) (by decide) (by omega)).mp y) (by omega)), h.k.1, u_X12_row_L43, m_isSign h.fine h.mw sg59, bs_some]
    dsimp only
    by_cases h59 : wK w = 59
    · rw [if_pos h59, if_pos h59, if_neg ne10]
      obtain ⟨j, rfl⟩ : ∃ q, j = q + 1 := ⟨j - 1, by omega⟩
      obtain ⟨j2, rfl⟩ : ∃ q, j2 = q + 1 := ⟨j2 - 1, by omega⟩
      rcases part_st (n := n) hC hc hm h hbn.1 with ⟨c', b', m', e1, e2, e3, e4, e5⟩ | ⟨c2, m2, e1, e2, hc2, hm2, h2, hs2, hg2, hp2, hb2, fc2, fm2⟩
      · refine outl_thr e1 e3 hc (ble.refl _) (m' := m') ?_ e4 e5
        rw [e2, bs_some]
        rfl
      · refine outl_c e1 ?_
        dsimp only
        rw [e2, bs_some]
        dsimp only
        rw [if_neg ne10]
        have hbn2 := hbn.go hs0 hs2 hg2 (cd_frI fc2 (by decide) (by decide) _) (rL_fr fc2 (by simp)) (mN_fr fm2 (by decide))
        obtain ⟨b3, d1, d2, d3, d4, d5, d6⟩ := BN.emit (n := n) (k := k + 5) (e1 := 16) (e2 := 0) (e3 := 0) hC hc2 hbn2 h2
        rw [d1, bs_some]
        refine outl_em d2 d3 ?_
        dsimp only
        obtain ⟨c4, m4, a1, a2, a3, a4, ⟨w', L', hL', a5⟩, a6⟩ := adv_ok (n := n) hn d6 (by rw [h59]; decide)
        rw [a1, bs_some, a2, bs_some]
        dsimp only
        have hc4 : CI C c0 b3 c4 b3 := d4.fr a3 (by decide)
        have hm4 : MI m0 m4 := hm2.fr a4 (by decide)
        rcases a5 with hX4 | ⟨hbw, hnf⟩
        · have hbn4 := d5.adv hs0 a3 a4 (a6 hX4.fine)
          refine outl_seq (hx c0 m0 c4 m4 b3 w' L' O mc (k + 5) kl hc4 hm4 hX4 (hbn4.1.debt (by omega) (by omega) (Nat.le_refl _)) (hbn4.2.1.n63.trans h63) hkl) ?_ ?_ ?_
          · intro v6 c6 b6 x6 m6 hc6 hm6 hE6
            dsimp only
            obtain ⟨r1, es1, l2, nn1, m7, g1, hbn7, g3, hkp7, w7', L7, hX7, hl7⟩ := hbn4.read hn hs0 hE6 (by omega) (fun _ => by omega)
            rw [g1, bs_some]
            dsimp only
            rw [nI_1]
            have hne : ess ≠ [] := fun e => by rw [e] at hel; simp at hel; omega
            rw [← rowE_snoc hne] at hbn7
            have hb8 := hbn7.debt (Nat.le_refl _) (by omega) (show k ≤ k + 5 by omega)
            have hlen : (ess ++ [es1]).length = (ch ++ [r1]).length := by simp [hel]
            obtain ⟨m', q1, q2, q3 | ⟨pl, q3, q4⟩ | q3⟩ := ih j j2 (i + 1) c6 b6 m7 w7' L7 l2 (ch ++ [r1]) (ess ++ [es1]) (ns ++ nn1) (by rw [hL'] at hd; simp at hd; omega) (by omega) (by omega) (by omega) hc6.here (hm6.fr g3 (by decide)) hX7 (hb8.debt (by omega) (by omega) (Nat.le_refl _)) (by simp) hlen (Or.inr ⟨hb8, by simp; omega⟩)
            · obtain ⟨c', b', i', y1, y2, w9, L9, l9, ch9, ess9, ns9, y3, y4, y5⟩ := q3
              exact ⟨m', q1, q2, Or.inl ⟨c', b', i', y1, y2, w9, L9, l9, ch9, ess9, ns9, y3, by rw [hL']; simp; omega, y5⟩⟩
            · exact ⟨m', q1, q2, Or.inr (Or.inl ⟨pl, q3, q4⟩)⟩
            · exact ⟨m', q1, q2, Or.inr (Or.inr q3)⟩
          · rintro v6 c6 b6 pl hc6 hbw ⟨hcs, hle⟩
            dsimp only
            refine Or.inl ⟨c6, b6, nI i + 1, bw_rowL hbw, hc6.here, hbw, hcs.less (by omega), ?_⟩
            have e1 := hbn4.1.nv.2.2.2.2.2.1
            have e2 := hbn4.2.1.n35
            have e3 := hs0.nv.2.2.2.2.2.1
            omega
          · intro x6 m6 k2 pl h1 h2
            dsimp only
            rw [nf_gets h2, bs_some]
            exact ⟨m6, nf_rowL h2, h1, h2⟩
        · obtain ⟨x2, q1, g1, g2, g3⟩ := hnx m0 m4 1 (wF w') hm4 hnf
          refine ⟨q1, ?_, g2, Or.inr (Or.inl ⟨wF w', ?_, g3⟩)⟩
          · rw [show rm 0 0 0 0 m4 = _ from g1, bs_some]
            dsimp only
            rw [nf_gets g3, bs_some]
            exact nf_rowL g3
          · exact opl_seq (Pn1 := fun _ _ => False) (hbx c0 c4 b3 (wF w') hc4 hbw) (fun _ _ _ _ _ y => y.elim)
    · rcases hor with hor | ⟨hbn2, hch2⟩
      · exact absurd hor h59
      rw [if_neg h59, if_neg h59, if_pos rfl]
      exact ⟨m1, rfl, hm, Or.inl ⟨c1, b, nI i, rfl, hc, w, L1, l1, ch, ess, ns, h, Nat.le_refl _, hbn2, hch2, hel⟩⟩
