/-! inside a unit that is within another -/
theorem PT.kp {ω : Nat → Nat × Nat} {m m' : md_S} {O : List Nat} {u p l0 l1 nn0 un0 : Nat} {ch : List Nat} {ess : List (List EN)} {ns : List Nat} (h : PT ω m O u p l0 l1 nn0 un0 ch ess ns) (hk : KP m m') (n35 : mN m 35 ≤ 60) (n50 : mN m 50 ≤ 500) (h65 : mN m 65 ≤ mN m' 65) (hnd : ∀ j, j < mN m 65 → mA m' 66 j = mA m 66 j ∧ mA m' 67 j = mA m 67 j ∧ mA m' 68 j = mA m 68 j ∧ mA m' 69 j = mA m 69 j ∧ mA m' 70 j = mA m 70 j ∧ S7 m m' j) (hcap : ∀ q, q < mN m 35 → q ∉ O → aN m' 44 q = aN m 44 q ∧ ∀ x, x < aN m 44 q → aN m' 45 (16 * q + x) = aN m 45 (16 * q + x)) : PT ω m' O u p l0 l1 nn0 un0 ch ess ns := by
  obtain ⟨a1, a2, a3, a4, ⟨f, a5, aw⟩, a6⟩ := h
  have hp : p < mN m 65 := (a6.1 p (by simp) a1).2
  have hx := fun x (hx : x ∈ ch) => GL.mem a5 x hx
  obtain ⟨x1, x2, x3, x4, x5, x6⟩ := hnd p hp
  have nd : ns.Nodup := (List.nodup_cons.mp a6.2.2.1).2
  have hS : ∀ x, x ∈ ch → S7 m m' x := fun x hx' => (hnd x (a6.1 x (List.mem_cons_of_mem _ (hx x hx')) (SB.lt a4.1 hx')).2).2.2.2.2.2
  refine ⟨a1, x2.trans a2, x6.1.trans a3, ⟨?_, a4.2.1, fun x hx' => (hS x hx').2.trans (a4.2.2 x hx')⟩, ⟨f, a5.to hk n35 n50 nd (fun x n1 _ hn => ?_), fun k x hx0 h0 => ?_⟩, a6.gr h65 hk.2.2.2.2.1⟩
  · rw [x5]
    exact a4.1.to (fun x hx' => (hS x hx').1)
  · refine ⟨fun j hj h9 => ?_, fun q hq => ?_⟩
    · obtain ⟨y1, y2, y3, y4, y5, y6⟩ := hnd j (a6.1 j (by simp [hn j hj]) h9).2
      exact ⟨y1, y2, y3, y4, y5, fun _ => y6⟩
    · obtain ⟨y1, y2, y3⟩ := a6.2.1 q (by simp [hn _ hq])
      exact hcap q y2 y3
  · obtain ⟨a, b, e, n3, g1, g2, g3⟩ := GL.at_ a5 (List.mem_of_getElem? hx0)
    refine Gen.gw g1 (g3 nd) ⟨fun j hj h9 => ?_, fun q hq => ?_⟩ (aw k x hx0 h0)
    · obtain ⟨y1, y2, y3, y4, y5, y6⟩ := hnd j (a6.1 j (by simp [g2 j hj]) h9).2
      exact ⟨y1, y2, y3, y4, y5, fun _ => y6⟩
    · obtain ⟨y1, y2, y3⟩ := a6.2.1 q (by simp [g2 _ hq])
      exact hcap q y2 y3
theorem NB.less {m : md_S} {O : List Nat} {u nn0 un0 : Nat} {ns : List Nat} (h : NB m (u :: O) nn0 un0 ns) : NB m O nn0 un0 ns :=
  ⟨h.1, fun q hq => ⟨(h.2.1 q hq).1, (h.2.1 q hq).2.1, fun y => (h.2.1 q hq).2.2 (by simp [y])⟩, h.2.2⟩
theorem PT.less {ω : Nat → Nat × Nat} {m : md_S} {O : List Nat} {v u p l0 l1 nn0 un0 : Nat} {ch : List Nat} {ess : List (List EN)} {ns : List Nat} (h : PT ω m (v :: O) u p l0 l1 nn0 un0 ch ess ns) : PT ω m O u p l0 l1 nn0 un0 ch ess ns :=
  ⟨h.1, h.2.1, h.2.2.1, h.2.2.2.1, h.2.2.2.2.1, h.2.2.2.2.2.less⟩
/-- growth, but for what unit is at work and how much is in scope -/
def GO (c c' : cd_S) (m m' : md_S) : Prop :=
  (mN m 65 ≤ mN m' 65 ∧ ∀ j, j < mN m 65 → mA m' 66 j = mA m 66 j ∧ mA m' 67 j = mA m 67 j ∧ mA m' 68 j = mA m 68 j ∧ mA m' 69 j = mA m 69 j ∧ mA m' 70 j = mA m 70 j ∧ S7 m m' j) ∧ KP m m' ∧
  (∀ i, i < mN m 35 → (mA m' 36 i = mA m 36 i ∧ mA m' 37 i = mA m 37 i ∧ mA m' 39 i = mA m 39 i ∧ mA m' 40 i = mA m 40 i ∧ mA m' 41 i = mA m 41 i ∧ mA m' 55 i = mA m 55 i ∧ mL m' 43 i = mL m 43 i ∧ cJ c' 293 i = cJ c 293 i) ∧ (i ≠ mN m 64 → mA m' 46 i = mA m 46 i ∧ rL c' (17 + 3 * i) = rL c (17 + 3 * i) ∧ cI c' 302 i = cI c 302 i) ∧ (¬ AN m i (mN m 64) → mA m' 44 i = mA m 44 i ∧ ∀ x, x < 16 → mA m' 45 (16 * i + x) = mA m 45 (16 * i + x))) ∧
  (∀ v, v < mN m 50 → mA m' 51 v = mA m 51 v ∧ mL m' 52 v = mL m 52 v ∧ mA m' 53 v = mA m 53 v ∧ mA m' 54 v = mA m 54 v) ∧ (∀ i, i < mN m 56 → mA m' 57 i = mA m 57 i) ∧ mI m' 63 = mI m 63 ∧ mI m' 7 = mI m 7 ∧ cI c' 137 0 = cI c 137 0 ∧ cP c' 135 0 = cP c 135 0 ∧ (∀ i, mN m 35 ≤ i → i < mN m' 35 → mA m' 36 i ≠ 0) ∧ mN m 62 ≤ mN m' 62
theorem GR.go {c c' : cd_S} {m m' : md_S} (h : GR c c' m m') : GO c c' m m' := by
  obtain ⟨a, b, d, e, f, g, i, j, l, o, p, q, r⟩ := h
  exact ⟨a, b, d, e, g, j, l, o, p, q, r⟩
theorem GO.gr {c c' : cd_S} {m m' : md_S} (h : GO c c' m m') (h56 : mI m' 56 = mI m 56) (h64 : mI m' 64 = mI m 64) : GR c c' m m' := by
  obtain ⟨a, b, d, e, g, j, l, o, p, q, r⟩ := h
  exact ⟨a, b, d, e, h56, g, h64, j, l, o, p, q, r⟩
theorem GO.fr2 {c c' c2 : cd_S} {m m' m2 : md_S} {F R G : List Nat} (h : GO c c' m m') (hc : cd_fr F R c' c2) (hR : ∀ i, i < mN m 35 → 17 + 3 * i ∉ R) (hm : md_fr G m' m2) (h41 : ∀ i, i < mN m 35 → mA m2 41 i = mA m' 41 i) (h1 : ∀ f, f ∈ [135, 137, 293, 302] → f ∉ F) (h2 : ∀ f, f ∈ [25, 30, 31, 35, 36, 37, 39, 40, 43, 44, 45, 46, 48, 50, 51, 52, 53, 54, 55, 57, 58, 60, 62, 63, 65, 66, 67, 68, 69, 70, 71, 72, 136] → f ∉ G) (h7 : mI m2 7 = mI m' 7) : GO c c2 m m2 := by
  have A : ∀ f, f ∈ [25, 30, 31, 35, 36, 37, 39, 40, 43, 44, 45, 46, 48, 50, 51, 52, 53, 54, 55, 57, 58, 60, 62, 63, 65, 66, 67, 68, 69, 70, 71, 72, 136] → ∀ i, mA m2 f i = mA m' f i := fun f hf i => md_frA hm (h2 f hf) i
  have N : ∀ f, f ∈ [25, 30, 31, 35, 36, 37, 39, 40, 43, 44, 45, 46, 48, 50, 51, 52, 53, 54, 55, 57, 58, 60, 62, 63, 65, 66, 67, 68, 69, 70, 71, 72, 136] → mN m2 f = mN m' f := fun f hf => mN_fr hm (h2 f hf)
  obtain ⟨⟨a1, a2⟩, b, d, e, g, j, l, o, p, q, r⟩ := h
  refine ⟨⟨by rw [N 65 (by decide)]; exact a1, fun x hx => ?_⟩, b.tr (KP.fr hm (fun x hx => h2 x (by revert hx; revert x; decide))), fun x hx => ?_, fun v hv => ?_, fun x hx => (A 57 (by decide) x).trans (g x hx), (md_frI hm (h2 63 (by decide))).trans j, h7.trans l, (cd_frI hc (h1 137 (by decide)) (by decide) 0).trans o, (cd_frP hc (h1 135 (by decide)) (by decide) 0).trans p, fun x h3 h4 => ?_, by rw [N 62 (by decide)]; exact r⟩
  · obtain ⟨x1, x2, x3, x4, x5, x6⟩ := a2 x hx
    exact ⟨(A 66 (by decide) x).trans x1, (A 67 (by decide) x).trans x2, (A 68 (by decide) x).trans x3, (A 69 (by decide) x).trans x4, (A 70 (by decide) x).trans x5, ⟨(A 71 (by decide) x).trans x6.1, (A 72 (by decide) x).trans x6.2⟩⟩
  · obtain ⟨⟨x1, x2, x3, x4, x5, x6, x7, x8⟩, x9, x10⟩ := d x hx
    refine ⟨⟨(A 36 (by decide) x).trans x1, (A 37 (by decide) x).trans x2, (A 39 (by decide) x).trans x3, (A 40 (by decide) x).trans x4, (h41 x hx).trans x5, (A 55 (by decide) x).trans x6, (md_frL hm (h2 43 (by decide)) x).trans x7, (cd_frJ hc (h1 293 (by decide)) (by decide) x).trans x8⟩, fun hne => ?_, fun hna => ?_⟩
    · obtain ⟨z1, z2, z3⟩ := x9 hne
      exact ⟨(A 46 (by decide) x).trans z1, (rL_fr hc (hR x hx)).trans z2, (cd_frI hc (h1 302 (by decide)) (by decide) x).trans z3⟩
    · obtain ⟨z1, z2⟩ := x10 hna
      exact ⟨(A 44 (by decide) x).trans z1, fun y hy => (A 45 (by decide) _).trans (z2 y hy)⟩
  · obtain ⟨x1, x2, x3, x4⟩ := e v hv
    exact ⟨(A 51 (by decide) v).trans x1, (md_frL hm (h2 52 (by decide)) v).trans x2, (A 53 (by decide) v).trans x3, (A 54 (by decide) v).trans x4⟩
  · rw [A 36 (by decide)]
    exact q x h3 (by rw [N 35 (by decide)] at h4; exact h4)
theorem GO.fr {c c' c2 : cd_S} {m m' m2 : md_S} {F G : List Nat} (h : GO c c' m m') (hc : cd_fr F [] c' c2) (hm : md_fr G m' m2) (h1 : ∀ f, f ∈ [135, 137, 293, 302] → f ∉ F) (h2 : ∀ f, f ∈ [25, 30, 31, 35, 36, 37, 39, 40, 41, 43, 44, 45, 46, 48, 50, 51, 52, 53, 54, 55, 57, 58, 60, 62, 63, 65, 66, 67, 68, 69, 70, 71, 72, 136] → f ∉ G) (h7 : mI m2 7 = mI m' 7) : GO c c2 m m2 :=
  h.fr2 hc (by simp) hm (fun i _ => md_frA hm (h2 41 (by decide)) i) h1 (fun f hf => h2 f (by revert hf; revert f; decide)) h7
/-- node i of the unit at work in c, m gets unit u, which is being read -/
def INN (c c' : cd_S) (m m' : md_S) (O : List Nat) (mc k kl i u : Nat) (t x : Int32) (lc0 l0 l1 : Nat) (ch : List Nat) (ess : List (List EN)) (ns : List Nat) (pre : List EN) : Prop :=
  ST c' m' (u :: O) mc k kl ∧ (mN m' 64 = u ∧ mN m 35 ≤ u ∧ mA m' 36 u ≠ 0 ∧ mA m' 40 u = nI (mN m 64) ∧ mA m' 37 u = mA m' 37 (mN m 64)) ∧ PT (ωB m t) m' (u :: O) (mN m 64) i l0 l1 (mN m 65) (mN m 35) ch ess ns ∧ (mA m' 66 i = t ∧ mA m' 68 i = x ∧ mA m' 69 i = 0) ∧ GO c c' m m' ∧ (mN m 62 < mN m' 62 ∧ cI c 302 (mN m 64) = nI lc0 ∧ lc0 ≤ 1000 ∧ cI c' 302 (mN m 64) = nI l1 ∧ l1 ≤ 1000 ∧ rL c' (17 + 3 * mN m 64) = rL c (17 + 3 * mN m 64) ++ fE pre) ∧ mN m 56 ≤ mN m' 56 ∧ ∀ j, mN m 56 ≤ j → j < mN m' 56 → ∃ v, v < mN m' 50 ∧ mA m' 57 j = nI v ∧ aN m' 51 v = u
theorem INN.start {c c1 : cd_S} {m m1 : md_S} {O : List Nat} {mc k kl i u : Nat} {t x : Int32} {lc0 l0 l1 : Nat} {ch : List Nat} {ess : List (List EN)} {ns : List Nat} {pre : List EN} (h : BN c c1 m m1 (u :: O) mc k kl i t x 0 lc0 l0 l1 ch ess ns pre) (hu0 : mN m 35 ≤ u) (hu : u < mN m1 35) (h36 : mA m1 36 u ≠ 0) (h40 : mA m1 40 u = nI (mN m 64)) (h37 : mA m1 37 u = mA m1 37 (mN m 64)) (h44 : mA m1 44 u = 0) : INN c (cSP c1 136 0 (u + 1)) m (mSI m1 64 (nI u)) O mc k kl i u t x lc0 l0 l1 ch ess ns pre := by
  obtain ⟨a1, a2, a3, a4, a5, a6, a7, a8, a9, a10, a11, a12, -⟩ := h
  obtain ⟨q62, q35, q50, q65, -⟩ := a1.nv
  have n64 := a2.n64
  have fc : cd_fr [136] [] c1 (cSP c1 136 0 (u + 1)) := cd_fr_SP (cd_fr_refl _ _ _) (by decide) _ _
  have fm : md_fr [64] m1 (mSI m1 64 (nI u)) := md_fr_SI (md_fr_refl _ _) (by decide) _
  have h56 : mN (mSI m1 64 (nI u)) 56 = mN m 56 := by
    obtain ⟨-, -, -, -, f, -⟩ := a2
    rw [mN_fr fm (by decide), mN, mN, f]
  refine ⟨a1.into hu (by simp) h36 (by rw [n64]; exact h40) (by rw [n64]; exact h37) h44, ⟨mN_of mI_SIe (by omega), hu0, h36, h40, h37⟩, ?_, ⟨a4, a5, a6⟩, a2.go.fr fc fm (by decide) (by decide) (mI_SIo (by decide)), ⟨?_, a8, a9, a10, a11, ?_⟩, by omega, fun j h1 h2 => by omega⟩
  · exact a3.kp (KP.fr fm (by decide)) q35 (by omega) (by rw [mN_fr fm (by decide)]; exact Nat.le_refl _) (fun j _ => ⟨rfl, rfl, rfl, rfl, rfl, ⟨rfl, rfl⟩⟩) (fun q _ _ => ⟨rfl, fun _ _ => rfl⟩)
  · rw [mN_fr fm (by decide)]; exact a7
  · rw [rL_fr fc (by simp)]; exact a12
/-- what was read in it -/
theorem INN.read {B : Nat → Int32} {N : Nat} {c c2 c3 : cd_S} {m m2 m3 : md_S} {O : List Nat} {mc k kl kl2 i u k0 kl0 : Nat} {t x v x3 : Int32} {lc0 l0 l1 : Nat} {ch : List Nat} {ess : List (List EN)} {ns : List Nat} {pre : List EN} {L : List WD} {b3 : cd_B} {pw : Nat} (h : INN c c2 m m2 O mc k kl i u t x lc0 l0 l1 ch ess ns pre) (hs0 : ST c m O mc k0 kl0) (hE : EOk pw B N c2 m2 (u :: O) mc k kl2 L v c3 b3 x3 m3) (hpw : 6 ≤ pw) (h302 : cI c2 302 u = 0) (hL : rL c2 (17 + 3 * u) = []) (hcv : CV m2 (u :: O) (mN m 64) (mN m 65) (mN m 35) (i :: ns)) :
    INN c c3 m m3 O mc k kl2 i u t x lc0 l0 l1 ch ess ns pre ∧ (∃ f r es l1' ns', x3 = nI r ∧ r < 900 ∧ (Gen m3 u f r 0 l1' es ns' ∧ (∃ g, GW m3 g r 149 24) ∧ mN m3 63 < 24) ∧ cI c3 302 u = nI l1' ∧ NB m3 (u :: O) (mN m2 65) (mN m2 35) ns' ∧ rL c3 (17 + 3 * u) = fE es ∧ ∀ j, j < mN m3 65 → mA m3 67 j = nI u → j ∈ ns') ∧ KP m2 m3 ∧ CV m3 O (mN m 64) (mN m 65) (mN m 35) (i :: ns) ∧ ∃ w3 L3, LX B N c3 m3 w3 L3 ∧ L3.length < L.length := by
  obtain ⟨a1, ⟨b1, b2, b3', b4, b5⟩, a3, ⟨a4, a5, a6⟩, g, ⟨a7, a8, a9, a10, a11, a12⟩, e1, e2⟩ := h
  obtain ⟨⟨w', L', hX, hl⟩, hs3, hg3, hp3, f2, r2, es2, l0', l2, n2, rfl, y0, y1, yb0, yb1, ⟨hG2, hW2⟩, hb2, h71, hL3, hcv3⟩ := hE
  obtain ⟨q62, q35, q50, q65, -⟩ := a1.nv
  have hnow := a1.now
  have hnow0 := hs0.now
  rw [b1] at y0 y1 hG2 hL3 hnow hcv3
  obtain ⟨hnu0, hO0⟩ := hs0.nu
  have q35' : mN m3 35 ≤ 60 := hs3.nv.2.1
  have hu35 : u < mN m2 35 := hnow.1
  have h0 : l0' = 0 := (nI_eq (b := 0) (by omega) (by decide)).mp (y0.symm.trans h302)
  rw [h0] at hG2
  have hgo : GO c c3 m m3 := by
    obtain ⟨⟨x1, x2⟩, bb, d, ee, gg, j, l, o, p, q, r⟩ := g
    obtain ⟨⟨A1, A2⟩, BB, D, EE, F, GG, I, J, LL, Oo, P, Q, R⟩ := hg3
    have h35 := bb.2.2.2.2.1
    have h50 := bb.2.2.1
    refine ⟨⟨by omega, fun z hz => ?_⟩, bb.tr BB, fun z hz => ?_, fun v hv => ?_, fun z hz => ?_, J.trans j, LL.trans l, Oo.trans o, P.trans p, fun z h1 h2 => ?_, by omega⟩
    · obtain ⟨t1, t2, t3, t4, t5, t6⟩ := x2 z hz
      obtain ⟨y1, y2, y3, y4, y5, y6⟩ := A2 z (by omega)
      exact ⟨y1.trans t1, y2.trans t2, y3.trans t3, y4.trans t4, y5.trans t5, t6.tr y6⟩
    · obtain ⟨⟨t1, t2, t3, t4, t5, t6, t7, t8⟩, t9, t10⟩ := d z hz
      obtain ⟨⟨y1, y2, y3, y4, y5, y6, y7, y8⟩, y9, y10⟩ := D z (by omega)
      have hzu : z ≠ mN m2 64 := by omega
      refine ⟨⟨y1.trans t1, y2.trans t2, y3.trans t3, y4.trans t4, y5.trans t5, y6.trans t6, y7.trans t7, y8.trans t8⟩, fun hne => ?_, fun hna => ?_⟩
      · obtain ⟨z1, z2, z3⟩ := t9 hne
        obtain ⟨w1, w2, w3⟩ := y9 hzu
        exact ⟨w1.trans z1, w2.trans z2, w3.trans z3⟩
      · obtain ⟨z1, z2⟩ := t10 hna
        obtain ⟨w1, w2⟩ := y10 (by
          rw [b1, AN_up b3' b4 (by omega)]
          rintro (y | y)
          · omega
          · rw [AN_gr (un := mN m 35) (fun i hi => (d i hi).1.1) (fun i hi => (d i hi).1.2.2.2.1) (ST.par hs0) hnow0.1] at y
            exact hna y)
        exact ⟨w1.trans z1, fun y hy => (w2 y hy).trans (z2 y hy)⟩
    · obtain ⟨t1, t2, t3, t4⟩ := ee v hv
      obtain ⟨y1, y2, y3, y4⟩ := EE v (by omega)
      exact ⟨y1.trans t1, y2.trans t2, y3.trans t3, y4.trans t4⟩
    · exact (GG z (by omega)).trans (gg z hz)
    · by_cases hz : z < mN m2 35
      · rw [(D z hz).1.1]; exact q z h1 hz
      · exact Q z (by omega) h2
  have hcov : ∀ j, j < mN m3 65 → mA m3 67 j = nI u → j ∈ n2 := by
    intro j hj h67
    by_cases hj2 : j < mN m2 65
    · rw [(hg3.1.2 j hj2).2.1] at h67
      by_cases hj0 : j < mN m 65
      · obtain ⟨q, q1, q2⟩ := hnu0 j hj0
        rw [(g.1.2 j hj0).2.1, q2] at h67
        have := (nI_eq (by omega) (by omega)).mp h67
        omega
      · rcases hcv j (by omega) hj2 with ⟨z1, -⟩ | ⟨q, q1, q2, q3, q4⟩
        · have := (nI_eq (by omega) (by omega)).mp (z1.symm.trans h67)
          omega
        · have := (nI_eq (by omega) (by omega)).mp (q4.symm.trans h67)
          exact absurd (by rw [this]; simp) q3
    · rcases hcv3 j (by omega) hj with ⟨-, z1⟩ | ⟨q, q1, q2, q3, q4⟩
      · exact z1
      · have := (nI_eq (by omega) (by omega)).mp (q4.symm.trans h67)
        omega
  have hcvO : CV m3 O (mN m 64) (mN m 65) (mN m 35) (i :: ns) := by
    intro j h1 h2
    by_cases hj2 : j < mN m2 65
    · rw [(hg3.1.2 j hj2).2.1]
      exact (hcv.less j h1 hj2).imp (fun y => y) (fun ⟨q, q1, q2, q3, q4⟩ => ⟨q, q1, Nat.lt_of_lt_of_le q2 hg3.2.1.2.2.2.2.1, q3, q4⟩)
    · right
      rcases hcv3 j (by omega) h2 with ⟨z1, -⟩ | ⟨q, q1, q2, q3, q4⟩
      · exact ⟨u, b2, Nat.lt_of_lt_of_le hu35 hg3.2.1.2.2.2.2.1, fun y => by have := hO0 u y; omega, z1⟩
      · exact ⟨q, by omega, q2, fun y => q3 (by simp [y]), q4⟩
  have hW149 : ∃ g, GW m3 g r2 149 24 := by
    have h24 := hW2.1 hpw
    obtain ⟨g, hg⟩ := hW2.2 (by omega)
    exact ⟨g, hg.le (by unfold wB; omega) (by omega)⟩
  have hi5 : i < mN m2 65 := (a3.2.2.2.2.2.1 i (by simp) a3.1).2
  obtain ⟨z1, z2, z3, z4, z5, z6⟩ := hg3.1.2 i hi5
  have n64 := hg3.n64
  obtain ⟨⟨u1, u2, u3, u4, u5, u6, u7, u8⟩, -, -⟩ := hg3.2.2.1 u hu35
  have ho35 : mN m 64 < mN m2 35 := by omega
  obtain ⟨⟨o1, o2, o3, o4, o5, o6, o7, o8⟩, o9, -⟩ := hg3.2.2.1 (mN m 64) ho35
  obtain ⟨o10, o11, o12⟩ := o9 (by omega)
  have h56 : mN m3 56 = mN m2 56 := by
    obtain ⟨-, -, -, -, f, -⟩ := hg3
    rw [mN, mN, f]
  refine ⟨⟨hs3, ⟨by omega, b2, by rw [u1]; exact b3', by rw [u4]; exact b4, by rw [u2, o2]; exact b5⟩, a3.gr hg3 a1, ⟨z1.trans a4, z3.trans a5, z4.trans a6⟩, hgo, ⟨by omega, a8, a9, o12.trans a10, a11, by rw [o11]; exact a12⟩, by omega, fun j h1 h2 => ?_⟩, ⟨f2, r2, es2, l2, n2, rfl, hG2.root.2.1, ⟨hG2, hW149, by rw [mN, hg3.n63, ← mN]; exact hW2.1 hpw⟩, y1, hb2, by rw [hL3, hL, List.nil_append], hcov⟩, hg3.2.1, hcvO, w', L', hX, hl⟩
  obtain ⟨v, v1, v2, v3⟩ := e2 j h1 (by omega)
  have h50 := hg3.2.1.2.2.1
  obtain ⟨-, -, -, e', -, g', -⟩ := hg3
  exact ⟨v, by omega, (g' j (by omega)).trans v2, by rw [aN, (e' v v1).1]; exact v3⟩
/-- an inner unit: what it has captured are variables, and its parent -/
def H45 (m : md_S) (u p : Nat) : Prop := (∀ x, x < aN m 44 u → aN m 45 (16 * u + x) < mN m 50) ∧ mA m 36 u ≠ 0 ∧ mA m 40 u = nI p ∧ mN m 63 < 24
theorem INN.shut {n : Nat} {C : Nat × Nat} {B : Nat → Int32} {N : Nat} {c0 c c4 : cd_S} {m m4 : md_S} {b : cd_B} {O : List Nat} {mc k kl i u k0 kl0 f r l nn un : Nat} {t : Int32} {lc0 l0 l1 : Nat} {ch : List Nat} {ess : List (List EN)} {ns ns' : List Nat} {pre es : List EN} {w : WD} {L : List WD} (hC : BC C) (hn : 5000 ≤ n) (h : INN c c4 m m4 O mc (k + 15) kl i u t (nI u) lc0 l0 l1 ch ess ns pre) (hs0 : ST c m O mc k0 kl0) (h56 : mN m4 56 = mN m 56) (hr : r < 900) (hGa : Gen m4 u f r 0 l es ns' ∧ (∃ g, GW m4 g r 149 24) ∧ mN m4 63 < 24) (h302 : cI c4 302 u = nI l) (hnb : NB m4 (u :: O) nn un ns') (hun : u < un) (hrL : rL c4 (17 + 3 * u) = fE es) (hcv : CV m4 O (mN m 64) (mN m 65) (mN m 35) (i :: ns)) (hcov : ∀ j, j < mN m4 65 → mA m4 67 j = nI u → j ∈ ns') (hc : CI C c0 b c4 b) (hX : LX B N c4 m4 w L) :
    ∃ c' b', f_X4_closeInner n c4 b u t = some (0, c', b') ∧ ble b' b ∧ CI C c0 b' c' b' ∧ LX B N c' (mSI (mSA m4 41 u (nI r)) 64 (nI (mN m 64))) w L ∧ BN c c' m (mSI (mSA m4 41 u (nI r)) 64 (nI (mN m 64))) O mc k kl i t (nI u) 0 lc0 l0 l1 ch ess ns (pre ++ gts (mSI (mSA m4 41 u (nI r)) 64 (nI (mN m 64))) u ++ [(t, nI u, 0)]) ∧ u < mN (mSI (mSA m4 41 u (nI r)) 64 (nI (mN m 64))) 35 ∧ aN (mSI (mSA m4 41 u (nI r)) 64 (nI (mN m 64))) 44 u ≤ 13 ∧ H45 (mSI (mSA m4 41 u (nI r)) 64 (nI (mN m 64))) u (mN m 64) := by
  obtain ⟨hG, ⟨gw, hgw⟩, h24⟩ := hGa
  obtain ⟨a1, ⟨b1, b2, b3, b4, b5⟩, a3, ⟨a4, a5, a6⟩, g, ⟨a7, a8, a9, a10, a11, a12⟩, e1, e2⟩ := h
  obtain ⟨q62, q35, q50, q65, c138, c66, -, -, -, -, -, -, s56, s134⟩ := a1.nv
  have hnow := a1.now
  have hnow0 := hs0.now
  rw [b1] at hnow
  have hu60 : u < 60 := hnow.2.1
  have ho : mN m 64 < u := by omega
  obtain ⟨m5, hm5⟩ : ∃ z, z = mSI (mSA m4 41 u (nI r)) 64 (nI (mN m 64)) := ⟨_, rfl⟩
  rw [← hm5]
  have fm5 : md_fr [41, 64] m4 m5 := by rw [hm5]; exact md_fr_SI (md_fr_SA (md_fr_refl _ _) (by decide) _ _) (by decide) _
  have x41 : mA m5 41 u = nI r := by rw [hm5, mA_SI, mA_SAe]
  have x41o : ∀ i, i ≠ u → mA m5 41 i = mA m4 41 i := fun i hi => by rw [hm5, mA_SI, mA_SAi hi]
  have x64 : mI m5 64 = nI (mN m 64) := by rw [hm5, mI_SIe]
  obtain ⟨bE, d1, d2, d3⟩ := c_emit (n := n) (x := 28) (y := 0) (z := 0) hC hc.1 hu60 (by omega)
  have hcE := (hc.em d2 d3 hu60).here
  have hsE := ST.emit (x := 28) (y := 0) (z := 0) (k := k + 14) a1
  rw [b1] at hsE
  obtain ⟨cE, hcE'⟩ : ∃ z, z = em c4 u 28 0 0 := ⟨_, rfl⟩
  rw [← hcE'] at hsE hcE d1
  have feE : cd_fr [] [17 + 3 * u] c4 cE := by rw [hcE']; exact em_fr c4 u 28 0 0
  obtain ⟨c5, hc5⟩ : ∃ z, z = cSP cE 136 0 (mN m 64 + 1) := ⟨_, rfl⟩
  have fc5 : cd_fr [136] [] cE c5 := by rw [hc5]; exact cd_fr_SP (cd_fr_refl _ _ _) (by decide) _ _
  have hAN : ∀ a x, x < mN m 35 → (AN m4 a x ↔ AN m a x) := fun a x hx => AN_gr (un := mN m 35) (fun i hi => (g.2.2.1 i hi).1.1) (fun i hi => (g.2.2.1 i hi).1.2.2.2.1) (ST.par hs0) hx
  have h5034 : mN m 50 ≤ mN m4 50 := g.2.1.2.2.1
  have hs5' : ST c5 m5 (u :: O) mc (k + 14) kl := by
    refine ST.outof (o := mN m 64) (s := mN m4 56) hsE (by rw [b1]; exact b3) (by rw [b1]; exact b4) (by omega) (by rw [b1]; exact b5) (cd_fr_mono fc5 (by decide) (fun _ y => y)) (md_fr_mono fm5 (by decide)) (by rw [hc5]; exact cP_SPe) (by rw [cd_frI fc5 (by decide) (by decide), cd_frI feE (by decide) (by decide)]; exact s134) x64 (by rw [md_frI fm5 (by decide)]; exact s56) (Nat.le_refl _) (fun i hi => x41o i (by omega)) (fun j hj => ?_) (fun j h1 h2 => by omega)
    obtain ⟨v, v1, v2, v3, v4, v5⟩ := hs0.sc.2.1 j (by omega)
    have g57 := g.2.2.2.2.1 j (by omega)
    have g51 := (g.2.2.2.1 v v1).1
    exact ⟨v, by omega, g57.trans v2, by rw [hAN _ _ hnow0.1, aN, g51]; exact v5⟩
  have k45 : KP m4 m5 := KP.fr fm5 (by decide)
  have hcl : CL c5 m5 O u := by
    refine ⟨f, r, es, l, ns', hr, x41, ⟨hG.to k45 q35 (by omega) hnb.2.2.1 (TK.of (ME.of fm5 (by decide)) r ns'), gw, Gen.gw hG hnb.2.2.1 (TK.of (ME.of fm5 (by decide)) r ns') hgw⟩, hnb.2.2.1, fun j hj h9 => by rw [mN_fr fm5 (by decide)]; exact (hnb.1 j hj h9).2, fun q hq => ?_, ?_, ?_, fun j hj h => hcov j (by rw [mN_fr fm5 (by decide)] at hj; exact hj) (by rw [md_frA fm5 (by decide)] at h; exact h)⟩
    · obtain ⟨z1, z2, z3⟩ := hnb.2.1 q hq
      exact ⟨by omega, by rw [mN_fr fm5 (by decide)]; exact z2, fun y => z3 (by simp [y])⟩
    · rw [rL_fr fc5 (by simp), hcE', em_L (hc.1.1 _ (by omega)) hu60 (by omega), hrL, fE_app, fE_one]
    · rw [cd_frI fc5 (by decide) (by decide), cd_frI feE (by decide) (by decide)]; exact h302
  have n64 : mN m5 64 = mN m 64 := mN_of x64 (by omega)
  have hs5 : ST c5 m5 O mc (k + 14) kl := hs5'.shut hcl (fun a ha y => by
    have := hs5'.anle a ha
    omega)
  have fcE5 : cd_fr [136] [17 + 3 * u] c4 c5 := cd_fr_tr feE fc5 (fun k hk => ⟨by simp, hk⟩) (fun k hk => ⟨hk, by simp⟩)
  have hbn : BN c c5 m m5 O mc (k + 14) kl i t (nI u) 0 lc0 l0 l1 ch ess ns pre := by
    refine ⟨hs5, ?_, ?_, ?_, ?_, ?_, ?_, a8, a9, ?_, a11, ?_, hcv.fr fm5 (by decide) (by decide) (by decide)⟩
    · refine GO.gr (g.fr2 fcE5 (fun i hi => by simp; omega) fm5 (fun i hi => x41o i (by omega)) (by decide) (by decide) (md_frI fm5 (by decide))) ?_ (by rw [x64]; exact hnow0.2.2.2.2.1.symm)
      rw [md_frI fm5 (by decide), s56, h56]
      exact hs0.sc.1.1.symm
    · refine (a3.kp k45 q35 (by omega) (by rw [mN_fr fm5 (by decide)]; exact Nat.le_refl _) (fun j _ => ⟨md_frA fm5 (by decide) j, md_frA fm5 (by decide) j, md_frA fm5 (by decide) j, md_frA fm5 (by decide) j, md_frA fm5 (by decide) j, ⟨md_frA fm5 (by decide) j, md_frA fm5 (by decide) j⟩⟩) (fun q _ _ => ⟨by rw [aN, aN, md_frA fm5 (by decide)], fun x _ => by rw [aN, aN, md_frA fm5 (by decide)]⟩)).less
    · rw [md_frA fm5 (by decide)]; exact a4
    · rw [md_frA fm5 (by decide)]; exact a5
    · rw [md_frA fm5 (by decide)]; exact a6
    · rw [mN_fr fm5 (by decide)]; exact a7
    · rw [cd_frI fcE5 (by decide) (by decide)]; exact a10
    · rw [rL_fr fcE5 (by simp; omega)]; exact a12
  obtain ⟨q, q1, q2, q3, q4⟩ : ∃ q, q ≤ 13 ∧ cI c5 299 u = nI q ∧ mA m5 44 u = nI q ∧ ∀ x, x < q → ∃ v, v < mN m5 50 ∧ mA m5 45 (16 * u + x) = nI v ∧ cAr c5 300 u x = kv m5 v ∧ aN m5 51 v < u := by
    obtain ⟨-, -, -, -, -, -, -, -, -, z, -⟩ := hs5.ur u (by rw [mN_fr fm5 (by decide)]; exact hnow.1)
    exact z
  have q50' : mN m5 50 = mN m4 50 := mN_fr fm5 (by decide)
  have hX5 : LX B N c5 m5 w L := hX.fr fcE5 fm5 (by decide) (fun z hz => by
    have hz : z = 0 ∨ z = 1 := by simpa using hz
    simp only [List.mem_singleton]
    omega) (by decide)
  have ea : k + (14 - q) + q = k + 14 := by omega
  have eb : k + (13 - q) + 1 = k + (14 - q) := by omega
  obtain ⟨c6, b6, r1, r2, r3, r4, r5, r6⟩ := BN.shutL (n := n) (u := u) (q := q) (what := t) (k := k + (14 - q)) hC q1 q 0 n c5 bE pre (by rw [ea]; exact hbn) hX5 (hcE.fr fc5 (by decide)) q2 (fun a ha => by
    obtain ⟨v, v1, v2, v3, v4⟩ := q4 a ha
    rw [aN_of v2 (by omega)]; exact v3) (by omega) (by omega)
  have h288 : cI c6 288 u = nI u := by
    rw [r6]
    obtain ⟨⟨x1, x2, x3, x4, x5, x6, x7, x8, x9⟩, -⟩ := hs5
    exact (x9 u (by rw [x3] at *; have := hs5'.nv.2.2.2.2.2.1; have := mN_fr fm5 (k := 35) (by decide); omega)).2.2.2
  obtain ⟨b7, t1, t2, t3, t4, t5, t6⟩ := BN.emit (n := n) (k := k + (13 - q)) (e1 := t) (e2 := nI u) (e3 := 0) hC r3 (by rw [eb]; exact r4) r5
  have h295 : cI cE 295 u = nI (mN m 64) := by
    obtain ⟨-, -, -, -, -, -, -, -, -, -, z, -⟩ := hsE.ur u hnow.1
    rcases z with ⟨z, -⟩ | ⟨-, j, j1, j2, j3⟩
    · exact absurd z b3
    · rw [j3, ← j2, b4]
  refine ⟨_, b7, ?_, (t3.tr r2).tr d3, t4, t6, ?_, by rw [mN_fr fm5 (by decide)]; exact hnow.1, by rw [aN_of q3 (by omega)]; exact q1, fun x hx => ?_, by rw [md_frA fm5 (by decide)]; exact b3, by rw [md_frA fm5 (by decide)]; exact b4, by rw [mN_fr fm5 (by decide)]; exact h24⟩
  · unfold f_X4_closeInner
    rw [d1, bs_some]
    refine c_ck ?_ ((t3.tr r2).tr d3).1 ((t3.tr r2).tr d3).2
    refine c_ck ?_ (t3.tr r2).1 (t3.tr r2).2
    dsimp only
    rw [h295, c_unitAt (by omega), bs_some, bs_some]
    dsimp only
    have r1' : f_X4_closeInner_L25 n u t n (cSP cE 136 0 (mN m 64 + 1)) bE 0 = some (c6, b6, nI q) := by rw [← hc5]; exact r1
    rw [r1', bs_some]
    refine c_ck ?_ t3.1 t3.2
    dsimp only
    rw [t1, bs_some, h288, t2, bs_some]
    exact c_ck rfl (Nat.le_refl _) (Nat.le_refl _)
  · have hg : gts m5 u = ((List.range q).drop 0).map (fun a => ((2 : Int32), kv m5 (aN m5 45 (16 * u + a)), (0 : Int32))) := by
      unfold gts
      rw [aN_of q3 (by omega), List.drop_zero]
    rw [hg]
    exact t5.debt (Nat.le_refl _) hs5.vb.2 (by omega)
  · rw [aN_of q3 (by omega)] at hx
    obtain ⟨v, v1, v2, v3, v4⟩ := q4 x hx
    rw [aN_of v2 (by omega)]; exact v1
/-- a node that gets a unit is whole -/
theorem BN.finU {B : Nat → Int32} {N : Nat} {c c' : cd_S} {m m' : md_S} {O : List Nat} {mc k kl i u : Nat} {t v : Int32} {lc0 l1 : Nat} {ch : List Nat} {ess : List (List EN)} {ns : List Nat} {pre : List EN} {b' : cd_B} {w : WD} {L L' : List WD} (h : BN c c' m m' O mc k kl i t (nI u) 0 lc0 lc0 l1 ch ess ns pre) (ht : t = 9 ∧ (ch.length = 0 ∧ mA m' 36 u ≠ 4) ∨ t = 10 ∧ (ch.length ≤ 1 ∧ (ch.length = 1 ↔ mA m' 36 u = 4) ∧ SP m' u)) (hX : LX B N c' m' w L') (hl : L'.length < L.length) (hu : u < mN m' 35) (hu0 : mN m 35 ≤ u) (huO : u ∉ O) (hun : ∀ q, 1000 + q ∈ ns → q ≠ u) (h13 : aN m' 44 u ≤ 13) (h45 : H45 m' u (mN m 64)) (hpre : ess.flatten ++ gts m' u ++ [(t, nI u, 0)] = pre) : EOk 3 B N c m O mc k kl L v c' b' (nI i) m' := by
  obtain ⟨a1, a2, a3, a4, a5, a6, a7, a8, a9, a10, a11, a12, a13⟩ := h
  obtain ⟨q62, q35, q50, q65, -⟩ := a1.nv
  obtain ⟨p1, p2, p3, p4, ⟨f, p5, paw⟩, p6⟩ := a3
  have ht9 : mA m' 66 i = 9 ∨ mA m' 66 i = 10 := by rw [a4]; exact ht.imp (fun y => y.1) (fun y => y.1)
  have h68 : aN m' 68 i = u := aN_of a5 (by omega)
  have hum : um m' i = [1000 + u] := by unfold um; rw [if_pos ht9, h68]
  have hlb : lb (mA m' 66 i) = 0 := by rcases ht9 with y | y <;> rw [y] <;> rfl
  have hcm : cmb m' i lc0 ess = pre := by
    rw [← hpre]
    unfold cmb
    rw [h68, a5]
    rw [if_neg (by rcases ht9 with y | y <;> rw [y] <;> decide), if_neg (by rcases ht9 with y | y <;> rw [y] <;> decide), if_neg (by rcases ht9 with y | y <;> rw [y] <;> decide), if_neg (by rcases ht9 with y | y <;> rw [y] <;> decide), if_neg (by rcases ht9 with y | y <;> rw [y] <;> decide), if_pos ht9, a4]
  have h64 : mN m 64 < 60 := by rw [← a2.n64]; exact a1.q64.2
  have e67 : aN m' 67 i = mN m 64 := aN_of p2 (by omega)
  have hwf : WFN m' i ch.length := by
    refine Or.inr (Or.inr (Or.inr (Or.inr (Or.inr (Or.inr (Or.inr (Or.inl ⟨?_, a6, u, a5, ⟨hu, fun y => by
      rcases ht with z | z
      · exact z.2.2
      · rw [a4, z.1] at y; exact absurd y (by decide), fun y => by
      rcases ht with z | z
      · rw [a4, z.1] at y; exact absurd y (by decide)
      · exact z.2.2.2⟩, h13, h45.1, by rw [e67, ← a2.n64]; exact a1.q64.1, fun x hx => by
      have z := hX.pc u hu h45.2.1 x hx
      rw [e67, ← aN_of h45.2.2.1 (by omega)]; exact z⟩)))))))
    rw [a4, h68]
    exact ht.imp (fun y => ⟨y.1, y.2.1⟩) (fun y => ⟨y.1, y.2.1, y.2.2.1⟩)
  have hG : Gen m' (mN m 64) (f + 1) i lc0 l1 pre (i :: ([1000 + u] ++ ns)) := ⟨p2, p1, ch, ess, ns, p4, by rw [hlb]; exact p5, hcm.symm, by rw [hum], hwf⟩
  have e63 : mN m' 63 = mN m 63 := by rw [mN, mN, a2.n63]
  have h24 : mN m 63 < 24 := by rw [← e63]; exact h45.2.2.2
  have hWr : WK 3 m m' i := by
    refine ⟨fun y => by omega, fun h24' => ⟨f + 1, (ωB_fin a4 hwf h24').1, ch, p4, fun _ => ?_, fun k x hx => ?_⟩⟩
    · rw [h68]
      have : ch.length ≤ 1 := by rcases ht with ⟨-, y⟩ | ⟨-, y⟩ <;> omega
      unfold wB
      omega
    · have hk : k < ch.length := by
        by_cases hk : k < ch.length
        · exact hk
        · rw [List.getElem?_eq_none (by omega)] at hx; exact absurd hx (by simp)
      obtain ⟨o1, o2, o3⟩ := (ωB_fin a4 hwf h24').2 k hk
      exact ⟨_, _, paw k x hx o1, o2, o3⟩
  have hnb : NB m' O (mN m 65) (mN m 35) (i :: ([1000 + u] ++ ns)) := by
    refine ⟨fun j hj h9 => ?_, fun q hq => ?_, ?_, fun j hj => ?_⟩
    · rcases List.mem_cons.mp hj with rfl | hj
      · exact p6.1 j (by simp) h9
      · rcases List.mem_append.mp hj with hj | hj
        · have := List.mem_singleton.mp hj; omega
        · exact p6.1 j (by simp [hj]) h9
    · rcases List.mem_cons.mp hq with hq | hq
      · omega
      · rcases List.mem_append.mp hq with hq | hq
        · have := List.mem_singleton.mp hq
          have : q = u := by omega
          rw [this]; exact ⟨hu0, hu, huO⟩
        · exact p6.2.1 q (by simp [hq])
    · obtain ⟨n1, n2⟩ := List.nodup_cons.mp p6.2.2.1
      refine List.nodup_cons.mpr ⟨fun y => ?_, List.nodup_cons.mpr ⟨fun y => ?_, n2⟩⟩
      · rcases List.mem_append.mp y with y | y
        · have := List.mem_singleton.mp y; omega
        · exact n1 y
      · exact hun u y rfl
    · rcases List.mem_cons.mp hj with rfl | hj
      · exact Or.inl p1
      · rcases List.mem_append.mp hj with hj | hj
        · have := List.mem_singleton.mp hj; exact Or.inr (by omega)
        · exact p6.2.2.2 j (by simp [hj])
  exact ⟨⟨w, L', hX, hl⟩, a1, a2, a7, f + 1, i, pre, lc0, l1, _, rfl, a8, a10, a9, a11, ⟨hG, hWr⟩, hnb, p3, a12, a13.mem (fun j hj => by
    rcases List.mem_cons.mp hj with y | y
    · rw [y]; simp
    · simp [y])⟩
