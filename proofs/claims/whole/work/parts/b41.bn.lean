/-! a node being read, in step: pre is what the class has emitted for it -/
def BN (c c' : cd_S) (m m' : md_S) (O : List Nat) (mc k kl i : Nat) (t x y : Int32) (lc0 l0 l1 : Nat) (ch : List Nat) (ess : List (List EN)) (ns : List Nat) (pre : List EN) : Prop :=
  ST c' m' O mc k kl ∧ GR c c' m m' ∧ PT (ωB m t) m' O (mN m 64) i l0 l1 (mN m 65) (mN m 35) ch ess ns ∧ mA m' 66 i = t ∧ mA m' 68 i = x ∧ mA m' 69 i = y ∧ mN m 62 < mN m' 62 ∧ cI c 302 (mN m 64) = nI lc0 ∧ lc0 ≤ 1000 ∧ cI c' 302 (mN m 64) = nI l1 ∧ l1 ≤ 1000 ∧ rL c' (17 + 3 * mN m 64) = rL c (17 + 3 * mN m 64) ++ fE pre ∧ CV m' O (mN m 64) (mN m 65) (mN m 35) (i :: ns)
theorem BN.cv {c c' : cd_S} {m m' : md_S} {O : List Nat} {mc k kl i : Nat} {t x y : Int32} {lc0 l0 l1 : Nat} {ch : List Nat} {ess : List (List EN)} {ns : List Nat} {pre : List EN} (h : BN c c' m m' O mc k kl i t x y lc0 l0 l1 ch ess ns pre) : CV m' O (mN m 64) (mN m 65) (mN m 35) (i :: ns) := by
  obtain ⟨-, -, -, -, -, -, -, -, -, -, -, -, z⟩ := h
  exact z
theorem ST.nu {c : cd_S} {m : md_S} {O : List Nat} {mc k kl : Nat} (h : ST c m O mc k kl) : NU m ∧ ∀ a, a ∈ O → a < mN m 35 := by
  obtain ⟨-, -, -, -, -, -, z, -, -, -, y, -⟩ := h
  exact ⟨z.2.2.2.2.1, y.2.1⟩
theorem ST.lab {c : cd_S} {m : md_S} {O : List Nat} {mc k kl : Nat} (h : ST c m O mc k kl) : ∃ l, cI c 302 (mN m 64) = nI l ∧ l ≤ mN m 62 + kl ∧ l ≤ 1000 := by
  obtain ⟨q62, -⟩ := h.nv
  have hn := h.now.1
  obtain ⟨-, -, ⟨d1, d2, d3, d4, d5, d6⟩, -⟩ := h
  obtain ⟨l, l1, l2⟩ := d6 _ hn
  exact ⟨l, l1, l2, by omega⟩
/-- a node for the word at hand, with the part counted: c2, m2 -/
theorem BN.new {n : Nat} {c c2 : cd_S} {m m2 : md_S} {O O0 : List Nat} {mc k kl k0 kl0 mc0 : Nat} {t x y : Int32} (hs0 : ST c m O0 mc0 k0 kl0) (hs : ST c2 m2 O mc k kl) (hg : GR c c2 m m2) (hp : mN m 62 < mN m2 62) (hb : mN m2 65 + 1 ≤ 2 * mN m2 62 + kl) (h302 : cI c2 302 (mN m 64) = cI c 302 (mN m 64)) (hL : rL c2 (17 + 3 * mN m 64) = rL c (17 + 3 * mN m 64)) (h65 : mN m2 65 = mN m 65) : ∃ i lc0, i < 900 ∧ f_X12_node n m2 t x y = some (nI i, ndm m2 i t x y) ∧ BN c c2 m (ndm m2 i t x y) O mc k kl i t x y lc0 lc0 lc0 [] [] [] [] := by
  obtain ⟨q62, q35, q50, q65, -⟩ := hs.nv
  obtain ⟨w1, w2, w3, w4, w5, w6, w7, w8⟩ := hs.now
  obtain ⟨l, la, -, lb⟩ := hs0.lab
  have n64 := hg.n64
  have f3 := ndm_fr m2 (mN m2 65) t x y
  have n65 : mN (ndm m2 (mN m2 65) t x y) 65 = mN m2 65 + 1 := mN_of (ndm_65 _ _ _ _ _) (by omega)
  obtain ⟨k66, k67, k68, k69, -⟩ := ndm_e m2 (mN m2 65) t x y
  refine ⟨mN m2 65, l, by omega, m_node w7 (by omega), ?_, ?_, ?_, k66, k68, k69, ?_, la, lb, by rw [h302]; exact la, lb, by rw [hL, fE_nil, List.append_nil], (CV.nil (m := m2) (Nat.le_of_eq h65)).add rfl n65 (by rw [k67, w5, n64]) (fun j hj => ndm_o (by omega)) (by rw [mN_fr f3 (by decide)]; exact Nat.le_refl _)⟩
  · refine hs.tree (md_fr_mono f3 (by decide)) (by rw [n65]; exact ndm_65 _ _ _ _ _) (by omega) (by omega) (fun j hj _ => ?_) (fun j hj => ?_)
    · exact ⟨ndm_o (by omega), ndm_o (by omega), ndm_o (by omega), ndm_o (by omega), ndm_o (by omega), ⟨ndm_o (by omega), ndm_o (by omega)⟩⟩
    · by_cases hji : j = mN m2 65
      · rw [hji, k67, if_neg (by omega), w5]
      · rw [ndm_o hji, if_pos (by omega)]
  · refine hg.tree (md_fr_mono f3 (by decide)) (by omega) (fun j hj => ?_)
    have := hg.1.1
    exact ⟨ndm_o (by omega), ndm_o (by omega), ndm_o (by omega), ndm_o (by omega), ndm_o (by omega), ⟨ndm_o (by omega), ndm_o (by omega)⟩⟩
  · exact (PT.new (un0 := mN m 35) w7 (by omega) (by rw [w5, n64])).low hg.1.1 (Nat.le_refl _)
  · rw [mN_fr f3 (by decide)]; exact hp
/-- the words go on -/
theorem BN.adv {c c' c2 : cd_S} {m m' m2 : md_S} {O O0 : List Nat} {mc k kl i k0 kl0 mc0 : Nat} {t x y : Int32} {lc0 l0 l1 : Nat} {ch : List Nat} {ess : List (List EN)} {ns : List Nat} {pre : List EN} (h : BN c c' m m' O mc k kl i t x y lc0 l0 l1 ch ess ns pre) (hs0 : ST c m O0 mc0 k0 kl0) (hc : cd_fr [327, 328, 329, 330] [] c' c2) (hm : md_fr [6, 7, 8, 9, 10, 11, 12, 13, 14, 15] m' m2) (h7 : mI m2 7 = mI m' 7) : BN c c2 m m2 O mc k kl i t x y lc0 l0 l1 ch ess ns pre := by
  obtain ⟨a1, a2, a3, a4, a5, a6, a7, a8, a9, a10, a11, a12, a13⟩ := h
  have hgr := GR.adv hc hm a1.nv.2.1 h7
  exact ⟨a1.adv hc hm, GR.tr hs0 a2 hgr, a3.gr hgr a1, by rw [md_frA hm (by decide)]; exact a4, by rw [md_frA hm (by decide)]; exact a5, by rw [md_frA hm (by decide)]; exact a6, by rw [mN_fr hm (by decide)]; exact a7, a8, a9, by rw [cd_frI hc (by decide) (by decide)]; exact a10, a11, by rw [rL_fr hc (by simp)]; exact a12, a13.fr hm (by decide) (by decide) (by decide)⟩
theorem BN.debt {c c' : cd_S} {m m' : md_S} {O : List Nat} {mc k kl k2 kl2 i : Nat} {t x y : Int32} {lc0 l0 l1 : Nat} {ch : List Nat} {ess : List (List EN)} {ns : List Nat} {pre : List EN} (h : BN c c' m m' O mc k kl i t x y lc0 l0 l1 ch ess ns pre) (hk : kl ≤ kl2) (h40 : kl2 ≤ 40) (h2 : k2 ≤ k) : BN c c' m m' O mc k2 kl2 i t x y lc0 l0 l1 ch ess ns pre := ⟨h.1.debt hk h40 h2, h.2⟩
theorem SB.lt {m : md_S} {j : Nat} : ∀ {l : List Nat} {v : Int32}, SB m v l → j ∈ l → j < 900
  | [], _, _, hv => absurd hv (by simp)
  | y :: l, v, hv, hx => by
      rcases List.mem_cons.mp hx with rfl | hx
      · exact hv.2.1
      · exact SB.lt hv.2.2 hx
/-- a child was read -/
theorem BN.read {n : Nat} {B : Nat → Int32} {N : Nat} {c c' c6 : cd_S} {m m' m6 : md_S} {O O0 : List Nat} {mc k kl kl2 i k0 kl0 mc0 : Nat} {t x y v x2 : Int32} {lc0 l0 l1 : Nat} {ch : List Nat} {ess : List (List EN)} {ns : List Nat} {pre : List EN} {L3 : List WD} {b6 : cd_B} {pw : Nat} (hn : 5000 ≤ n) (h : BN c c' m m' O mc k kl i t x y lc0 l0 l1 ch ess ns pre) (hs0 : ST c m O0 mc0 k0 kl0) (hE : EOk pw B N c' m' O mc k kl2 L3 v c6 b6 x2 m6) (hpw3 : 3 ≤ pw) (hpw6 : ch.length ≠ 0 ∨ t = 19 ∨ t = 42 → 6 ≤ pw) :
    ∃ r2 es2 l2 n2 m7, f_X12_gets n m6 (nI i) x2 = some (0, m7) ∧ BN c c6 m m7 O mc k kl2 i t x y lc0 l0 l2 (ch ++ [r2]) (ess ++ [es2]) (ns ++ n2) (pre ++ es2) ∧ md_fr [70, 71, 72] m6 m7 ∧ KP m' m7 ∧ ∃ w6 L6, LX B N c6 m7 w6 L6 ∧ L6.length < L3.length := by
  obtain ⟨a1, a2, a3, a4, a5, a6, a7, a8, a9, a10, a11, a12, a13⟩ := h
  obtain ⟨⟨w', L', hX, hl⟩, hs6, hg6, hp6, f2, r2, es2, l0', l2, n2, rfl, y0, y1, yb0, yb1, ⟨hG2, hW2⟩, hb2, h71, hL6, hcv6⟩ := hE
  have n64 := a2.n64
  have n64' := hg6.n64
  rw [n64] at y0 y1 hG2 hL6 hcv6
  obtain rfl : l0' = l1 := (nI_eq (by omega) (by omega)).mp (y0.symm.trans a10)
  obtain ⟨q62, q35, q50, q65, -⟩ := hs6.nv
  obtain ⟨w1, w2, w3, w4, w5, w6, w7, w8⟩ := hs6.now
  have hu : mN m6 64 = mN m 64 := n64'.trans n64
  have hi9 := a3.1
  have hi5 : i < mN m' 65 := (a3.2.2.2.2.2.1 i (by simp) hi9).2
  have hi0 : mN m 65 ≤ i := (a3.2.2.2.2.2.1 i (by simp) hi9).1
  obtain ⟨z1, z2, z3, z4, z5, z6⟩ := hg6.1.2 i hi5
  have hpt6 := a3.gr hg6 a1
  have hbb : NB m6 O (mN m 65) (mN m 35) (i :: (ns ++ n2)) := by
    have := NB.app hpt6.2.2.2.2.2 hb2 a2.1.1 a2.n35 (fun j hj h9 => (a3.2.2.2.2.2.1 j hj h9).2) (fun q hq => (a3.2.2.2.2.2.2.1 q hq).2.1)
    exact this
  obtain ⟨gx, hgx⟩ := hW2.om (m := m) (k := ch.length) (t := t) (by rw [mN, mN, a2.n63]) hpw3 hpw6
  obtain ⟨m7, g1, g2, g3, g4, g5⟩ := PT.add (n := n) hX.fine (by omega) q35 (by omega) (by omega) hpt6 hG2 h71 hb2 hbb (by omega) hgx
  have f7 : md_fr [65, 66, 67, 68, 69, 70, 71, 72, 73] m6 m7 := md_fr_mono g3 (by decide)
  have hch : ∀ j, j ∈ ch → mA m6 67 j = nI (mN m 64) ∧ mN m 65 ≤ j := by
    intro j hj
    obtain ⟨f, hf, -⟩ := hpt6.2.2.2.2.1
    have hjn := GL.mem hf j hj
    have hj9 : j < 900 := SB.lt hpt6.2.2.2.1.1 hj
    exact ⟨GL.unit (fun g => Gen.unit g) hf j hjn hj9, (a3.2.2.2.2.2.1 j (List.mem_cons_of_mem _ hjn) hj9).1⟩
  refine ⟨r2, es2, l2, n2, m7, g1, ⟨?_, ?_, g2, ?_, ?_, ?_, ?_, a8, a9, y1, yb1, ?_, (a13.app hcv6 hg6 a2.n35).fr g3 (by decide) (by decide) (by decide)⟩, g3, hg6.2.1.tr (KP.fr g3 (by decide)), w', L', hX.fr (cd_fr_refl _ [] []) g3 (by decide) (by decide) (by decide), hl⟩
  · refine hs6.tree f7 (by rw [md_frI g3 (by decide), mN_fr g3 (by decide)]; exact w7) (by rw [mN_fr g3 (by decide)]; exact Nat.le_refl _) (by rw [mN_fr g3 (by decide)]; exact hs6.2.2.1.2.1) (fun j hj h67 => ?_) (fun j hj => by rw [mN_fr g3 (by decide)] at hj; rw [md_frA g3 (by decide), if_pos hj])
    have hne : j ≠ i := fun e => h67 (by rw [e, hpt6.2.1, hu])
    have hnc : j ∉ ch := fun e => h67 (by rw [(hch j e).1, hu])
    have hjr : j ≠ r2 := fun e => h67 (by rw [e, hG2.root.2.2, hu])
    exact ⟨md_frA g3 (by decide) j, md_frA g3 (by decide) j, md_frA g3 (by decide) j, md_frA g3 (by decide) j, g4 j hne, g5 j hnc hjr⟩
  · refine (GR.tr hs0 a2 hg6).tree f7 (by rw [mN_fr g3 (by decide)]; exact Nat.le_refl _) (fun j hj => ?_)
    have hne : j ≠ i := by omega
    have hnc : j ∉ ch := fun e => by have := (hch j e).2; omega
    have hjr : j ≠ r2 := by have := (hb2.1 r2 hG2.root.1 hG2.root.2.1).1; have := a2.1.1; omega
    exact ⟨md_frA g3 (by decide) j, md_frA g3 (by decide) j, md_frA g3 (by decide) j, md_frA g3 (by decide) j, g4 j hne, g5 j hnc hjr⟩
  · rw [md_frA g3 (by decide), z1]; exact a4
  · rw [md_frA g3 (by decide), z3]; exact a5
  · rw [md_frA g3 (by decide), z4]; exact a6
  · rw [mN_fr g3 (by decide)]; omega
  · rw [hL6, a12, fE_app, List.append_assoc]
/-- the class emits -/
theorem BN.emit {n : Nat} {C : Nat × Nat} {B : Nat → Int32} {N : Nat} {c0 c c' : cd_S} {m m' : md_S} {b0 b : cd_B} {O : List Nat} {mc k kl i : Nat} {t x y e1 e2 e3 : Int32} {lc0 l0 l1 : Nat} {ch : List Nat} {ess : List (List EN)} {ns : List Nat} {pre : List EN} {w : WD} {L : List WD} (hC : BC C) (hc : CI C c0 b0 c' b) (h : BN c c' m m' O mc (k + 1) kl i t x y lc0 l0 l1 ch ess ns pre) (hX : LX B N c' m' w L) :
    ∃ b', cd_dp c' 136 0 = some (mN m 64) ∧ f_X9_emit n c' b (mN m 64) e1 e2 e3 = some (0, em c' (mN m 64) e1 e2 e3, b') ∧ ble b' b ∧ CI C c0 b' (em c' (mN m 64) e1 e2 e3) b' ∧ BN c (em c' (mN m 64) e1 e2 e3) m m' O mc k kl i t x y lc0 l0 l1 ch ess ns (pre ++ [(e1, e2, e3)]) ∧ LX B N (em c' (mN m 64) e1 e2 e3) m' w L := by
  obtain ⟨a1, a2, a3, a4, a5, a6, a7, a8, a9, a10, a11, a12, a13⟩ := h
  have n64 := a2.n64
  obtain ⟨w1, w2, w3, w4, w5, w6, w7, w8⟩ := a1.now
  rw [n64] at w1 w2 w3 w4 w5 w6
  obtain ⟨b', d1, d2, d3⟩ := c_emit (n := n) (x := e1) (y := e2) (z := e3) hC hc.1 w2 (by omega)
  have hst := ST.emit (x := e1) (y := e2) (z := e3) a1
  rw [n64] at hst
  refine ⟨b', w4, d1, d3, (hc.em d2 d3 w2).here, ⟨hst, a2.em, a3, a4, a5, a6, a7, a8, a9, by rw [em_I (by decide)]; exact a10, a11, ?_, a13⟩, hX.fr (em_fr _ _ _ _ _) (md_fr_refl _ []) (by simp) (fun z hz => ?_) (by decide)⟩
  · rw [em_L (hc.1.1 _ (by omega)) w2 (by omega), a12, fE_app, fE_one, List.append_assoc]
  · have hz : z = 0 ∨ z = 1 := by simpa using hz
    simp only [List.mem_singleton]
    omega
/-- the node is whole -/
theorem BN.fin {B : Nat → Int32} {N : Nat} {c c' : cd_S} {m m' : md_S} {O : List Nat} {mc k kl i : Nat} {t x y v : Int32} {lc0 l0 l1 : Nat} {ch : List Nat} {ess : List (List EN)} {ns : List Nat} {pre : List EN} {b' : cd_B} {w : WD} {L L' : List WD} (h : BN c c' m m' O mc k kl i t x y lc0 l0 l1 ch ess ns pre) (hX : LX B N c' m' w L') (hl : L'.length < L.length) (hl0 : l0 = lc0 + lb t) (hum : um m' i = []) (hw : WFN m' i ch.length) (hpre : cmb m' i lc0 ess = pre) : EOk 3 B N c m O mc k kl L v c' b' (nI i) m' := by
  obtain ⟨a1, a2, a3, a4, a5, a6, a7, a8, a9, a10, a11, a12, a13⟩ := h
  obtain ⟨F, hF, hFw⟩ := PT.gen (l0 := lc0) (by rw [a4, ← hl0]; exact a3) hum hw
  have hWr : WK 3 m m' i := ⟨fun y => by omega, fun h24 => ⟨F, hFw _ _ (ωB_fin a4 hw h24).1 (ωB_fin a4 hw h24).2⟩⟩
  rw [hpre] at hF
  exact ⟨⟨w, L', hX, hl⟩, a1, a2, a7, F, i, pre, lc0, l1, _, rfl, a8, a10, a9, a11, ⟨hF, hWr⟩, a3.2.2.2.2.2, a3.2.2.1, a12, a13⟩
/-- a row is whole -/
theorem BN.fin6 {B : Nat → Int32} {N : Nat} {c c' : cd_S} {m m' : md_S} {O : List Nat} {mc k kl i : Nat} {x y v : Int32} {lc0 l0 l1 : Nat} {ch : List Nat} {ess : List (List EN)} {ns : List Nat} {pre : List EN} {b' : cd_B} {w : WD} {L L' : List WD} (h : BN c c' m m' O mc k kl i 42 x y lc0 l0 l1 ch ess ns pre) (hX : LX B N c' m' w L') (hl : L'.length < L.length) (hl0 : l0 = lc0 + lb 42) (hum : um m' i = []) (hw : WFN m' i ch.length) (hpre : cmb m' i lc0 ess = pre) (h24 : mN m 63 < 24) : EOk 6 B N c m O mc k kl L v c' b' (nI i) m' := by
  obtain ⟨a1, a2, a3, a4, a5, a6, a7, a8, a9, a10, a11, a12, a13⟩ := h
  obtain ⟨F, hF, hFw⟩ := PT.gen (l0 := lc0) (by rw [a4, ← hl0]; exact a3) hum hw
  have hWr : WK 6 m m' i := ⟨fun _ => h24, fun h => ⟨F, hFw _ _ (ωB_row (ch := ch) a4 h).1 (ωB_row a4 h).2⟩⟩
  rw [hpre] at hF
  exact ⟨⟨w, L', hX, hl⟩, a1, a2, a7, F, i, pre, lc0, l1, _, rfl, a8, a10, a9, a11, ⟨hF, hWr⟩, a3.2.2.2.2.2, a3.2.2.1, a12, a13⟩
