/-! rights of a limit, in step -/
abbrev TL : Type := cd_S × cd_B × Int32 × Int32
abbrev ML : Type := md_S × Int32
def lFc : List Nat := [98, 99, 160, 161, 162, 163, 327, 328, 329, 330]
def lFm : List Nat := [6, 7, 8, 9, 10, 11, 12, 13, 14, 15, 17, 18, 19, 23, 24]
/-- rights and patterns of askings stay -/
def RAS (c c' : cd_S) (m m' : md_S) : Prop := (∀ x, 168 ≤ x → x < 192 → cI c' 162 x = cI c 162 x ∧ cI c' 163 x = cI c 163 x ∧ cJ c' 160 x = cJ c 160 x ∧ ∀ i, cLr c' 161 x i = cLr c 161 x i) ∧ ∀ x, 240 ≤ x → x < 264 → mA m' 18 x = mA m 18 x ∧ mA m' 19 x = mA m 19 x ∧ ∀ i, i < 5 → mL m' 17 (5 * x + i) = mL m 17 (5 * x + i)
theorem RAS.refl (c : cd_S) (m : md_S) : RAS c c m m := ⟨fun _ _ _ => ⟨rfl, rfl, rfl, fun _ => rfl⟩, fun _ _ _ => ⟨rfl, rfl, fun _ _ => rfl⟩⟩
theorem RAS.tr {c c1 c2 : cd_S} {m m1 m2 : md_S} (h : RAS c c1 m m1) (h2 : RAS c1 c2 m1 m2) : RAS c c2 m m2 := by
  refine ⟨fun x h3 h4 => ?_, fun x h3 h4 => ?_⟩
  · obtain ⟨a1, a2, a3, a4⟩ := h.1 x h3 h4
    obtain ⟨b1, b2, b3, b4⟩ := h2.1 x h3 h4
    exact ⟨b1.trans a1, b2.trans a2, b3.trans a3, fun i => (b4 i).trans (a4 i)⟩
  · obtain ⟨a1, a2, a3⟩ := h.2 x h3 h4
    obtain ⟨b1, b2, b3⟩ := h2.2 x h3 h4
    exact ⟨b1.trans a1, b2.trans a2, fun i hi => (b3 i hi).trans (a3 i hi)⟩
theorem RAS.fr {c c' : cd_S} {m m' : md_S} {F G : List Nat} (hc : cd_fr F [] c c') (hm : md_fr G m m') (h1 : ∀ f, f ∈ [160, 161, 162, 163] → f ∉ F) (h2 : ∀ f, f ∈ [17, 18, 19] → f ∉ G) : RAS c c' m m' :=
  ⟨fun x _ _ => ⟨cd_frI hc (h1 162 (by decide)) (by decide) x, cd_frI hc (h1 163 (by decide)) (by decide) x, cd_frJ hc (h1 160 (by decide)) (by decide) x, fun i => cd_frL hc (h1 161 (by decide)) (by decide) x i⟩, fun x _ _ => ⟨md_frA hm (h2 18 (by decide)) x, md_frA hm (h2 19 (by decide)) x, fun i _ => md_frL hm (h2 17 (by decide)) _⟩⟩
theorem AGR.ras {c c' : cd_S} {m m' : md_S} (h : AGR c m) (hr : RAS c c' m m') (hc : CE [103, 109] c c') (hm : ME [48, 49, 136] m m') : AGR c' m' := by
  obtain ⟨a1, a2, a3, a4⟩ := h
  have e := hm.mN (k := 48) (by decide)
  refine ⟨by rw [(hc 109 (by decide)).1, e]; exact a1, by rw [(hm 48 (by decide)).1, e]; exact a2, by omega, fun i hi => ?_⟩
  obtain ⟨⟨a, tl, r1, r2, r3, r4, r5, r6, r7⟩, b2, b3, b4, b5⟩ := a4 i (by omega)
  obtain ⟨s1, s2, s3, s4⟩ := hr.1 (168 + i) (by omega) (by omega)
  obtain ⟨t1, t2, t3⟩ := hr.2 (240 + i) (by omega) (by omega)
  refine ⟨⟨a, tl, r1, r2, s1.trans r3, s2.trans r4, t1.trans r5, t2.trans r6, fun y hy => by rw [s4, t3 y (by omega)]; exact r7 y hy⟩, ?_, ⟨s2.trans b3.1, by rw [s1]; exact b3.2⟩, ?_, ?_⟩
  · rw [s3, (hm 49 (by decide)).2.2.2]; exact b2
  · rw [(hm 136 (by decide)).2.2.1]; exact b4
  · rw [(hm 136 (by decide)).2.2.1, (hc 103 (by decide)).2.2.1]; exact b5
theorem nf_right {n : Nat} {m : md_S} {k pl : Nat} {x : Int32} (h : NF m k pl) : f_X12_right n m x = some (0, m) := by
  unfold f_X12_right
  rw [nf_isName h, bs_some]
  rfl
theorem nf_limL {n j : Nat} {rm : md_R} {m : md_S} {k pl : Nat} {a1 a2 a3 x : Int32} (h : NF m k pl) : ∃ y, f_X12_priv_L111 n rm a1 a2 a3 (j + 1) m x = some (m, y) := by
  rw [u_X12_priv_L111]
  by_cases hx : x = 0
  · rw [if_pos hx]; exact ⟨_, rfl⟩
  · rw [if_neg hx, nf_isFine h, bs_some]; exact ⟨_, rfl⟩
theorem limL {n : Nat} {C : Nat × Nat} {B : Nat → Int32} {N : Nat} {rc : cd_R} {rm : md_R} {a a1 a2 : Int32} {u g l : Nat} {c0 : cd_S} {m0 : md_S} (hC : BC C) (hn : 5000 ≤ n) (hl : l < 12) : ∀ (d jj j2 z : Nat) (c : cd_S) (b : cd_B) (m : md_S) (w : WD) (L : List WD), z + d = 8 → d + 1 < jj → d + 1 < j2 → CI C c0 b c b → MI m0 m → LX B N c m w L → wK w ≠ 0 → PolQ c m g g (l + 1) → cAr c 99 0 l = nI z →
    OUTX C c0 m0 b (fun (r : TL) => r.1) (fun (r : TL) => r.2.1) (fun (y : ML) => y.1) (f_X4_readPriv_L47 n rc a u (jj + 1) c b 1 (nI z)) (f_X12_priv_L111 n rm a1 a2 (nI (8 + l)) (j2 + 1) m 1)
      (fun r y => r.2.1 = b ∧ (∃ w' L', LX B N r.1 y.1 w' L' ∧ L'.length < L.length) ∧ PolQ r.1 y.1 g g (l + 1) ∧ cd_fr lFc [] c r.1 ∧ md_fr lFm m y.1 ∧ mI y.1 7 = mI m 7 ∧ RAS c r.1 m y.1) (fun r => r.2.1 = b ∧ cd_fr lFc [] c r.1) := by
  intro d
  induction d with
  | zero =>
    intro jj j2 z c b m w L hz hjj hj2 hc hm h hk hP h99
    obtain rfl : z = 8 := by omega
    obtain ⟨jj, rfl⟩ : ∃ q, jj = q + 1 := ⟨jj - 1, by omega⟩
    obtain ⟨j2, rfl⟩ : ∃ q, j2 = q + 1 := ⟨j2 - 1, by omega⟩
    rw [u_X4_readPriv_L47, if_neg ne10, if_neg (show ¬ (8 : Int32) < nI 8 by decide), u_X12_priv_L111, if_neg ne10, m_fine, bs_some, if_pos h.fine]
    dsimp only
    rw [if_neg ne10]
    obtain ⟨c3, m3, e1, e2, e3, e4, ⟨w3, L3, hL3, e5⟩, e6⟩ := adv_ok (n := n) hn h hk
    rw [e1, bs_some, e2, bs_some]
    dsimp only
    have hc3 : CI C c0 b c3 b := hc.fr e3 (by decide)
    have hm3 : MI m0 m3 := hm.fr e4 (by decide)
    have nfB : ∀ (q : md_S) (k2 pl : Nat), MI m0 q → NF q k2 pl → ∃ y', (Option.bind (f_X12_isSign n q (44 : Int32)) fun p15 => f_X12_priv_L111 n rm a1 a2 (nI (8 + l)) (j2 + 1) p15.2 (p15.1)) = some y' ∧ MI m0 y'.1 ∧ NF y'.1 k2 pl := by
      intro q k2 pl h1 h2
      rw [nf_isSign h2, bs_some]
      obtain ⟨y, hy⟩ := nf_limL (n := n) (j := j2) (rm := rm) (a1 := a1) (a2 := a2) (a3 := nI (8 + l)) (x := 0) h2
      exact ⟨_, hy, h1, h2⟩
    obtain ⟨z', z1, z2⟩ := (hP.2.2.2.2.2.2.2.2 l (by omega))
    have hz8 : z' = 8 := (nI_eq (by have := z2.2.1; omega) (by omega)).mp (z1.symm.trans h99)
    subst hz8
    rcases e5 with hX3 | ⟨hbw, hnf⟩
    · have hP3 : PolQ c3 m3 g g (l + 1) := hP.fr e3 e4 (by decide) (by decide)
      have hS : RS c3 1 (8 + l) 8 := Or.inr ⟨rfl, by omega, by omega, by rw [hP3.2.2.2.2.2.1]; congr 1; omega, by rw [cd_frA e3 (by decide) (by decide), show 8 + l - 8 = l by omega]; exact h99⟩
      have hR3 : RtR c3 m3 (8 + l) 8 := by
        obtain ⟨y1, y2, y3⟩ := hP3.2.2.2.2.2.2.2.2 l (by omega)
        have : y1 = 8 := (nI_eq (by have := y3.2.1; omega) (by omega)).mp (y2.symm.trans (by rw [cd_frA e3 (by decide) (by decide)]; exact h99))
        rw [this] at y3; exact y3
      refine outx_seq (right_ok hC hn hc3 hm3 hX3 hS hR3) ?_ ?_ (fun x q k2 pl h1 h2 => nfB q k2 pl h1 h2)
      · rintro v c1 b1 x m1 hc1 hm1 ⟨-, hz7, -⟩
        omega
      · rintro v c1 b1 pl hc1 hbw ⟨rfl, q4⟩
        dsimp only
        rw [hbw.1, if_neg (by decide)]
        unfold f_X4_readPriv_J89
        obtain ⟨jj, rfl⟩ : ∃ q, jj = q + 1 := ⟨jj - 1, by omega⟩
        refine Or.inl ⟨_, by rw [u_X4_readPriv_L47, if_pos rfl], hc1.here, hbw, rfl, ?_⟩
        exact cd_fr_tr e3 q4 (fun k hk => ⟨nin (by decide) hk, hk⟩) (fun _ y => ⟨y, y⟩)
    · obtain ⟨c', b', g1, g2⟩ := c_needName0 (n := n) hC hc3.1 hbw.2 (by rw [hbw.1]; decide)
      have hbr : f_X4_readRight n c3 b (nI 8) 1 = some (Sum.inr (c', b')) := by
        unfold f_X4_readRight
        refine ck_inr ?_ ⟨g2.2.2.2.1, g2.2.2.2.2.1⟩
        rw [g1, bs_some]
        exact ck_inr rfl (ble.refl _)
      obtain ⟨y', f1, f2, f3⟩ := nfB m3 1 (wF w3) hm3 hnf
      refine ⟨y', ?_, f2, Or.inr (Or.inl ⟨wF w3, Or.inr ⟨c', b', ?_, g2.tx hc3⟩, f3⟩)⟩
      · rw [nf_right hnf, bs_some]; exact f1
      · rw [hbr, bs_some]; exact ckx_inl rfl (ble.refl _)
  | succ d ih =>
    intro jj j2 z c b m w L hz hjj hj2 hc hm h hk hP h99
    obtain ⟨jj, rfl⟩ : ∃ q, jj = q + 1 := ⟨jj - 1, by omega⟩
    obtain ⟨j2, rfl⟩ : ∃ q, j2 = q + 1 := ⟨j2 - 1, by omega⟩
    rw [u_X4_readPriv_L47, if_neg ne10, if_neg (show ¬ (8 : Int32) < nI z from fun y => absurd ((nI_ltI (a := 8) (by decide) (by omega)).mp y) (by omega)), u_X12_priv_L111, if_neg ne10, m_fine, bs_some, if_pos h.fine]
    dsimp only
    rw [if_neg ne10]
    obtain ⟨c3, m3, e1, e2, e3, e4, ⟨w3, L3, hL3, e5⟩, e6⟩ := adv_ok (n := n) hn h hk
    rw [e1, bs_some, e2, bs_some]
    dsimp only
    have hc3 : CI C c0 b c3 b := hc.fr e3 (by decide)
    have hm3 : MI m0 m3 := hm.fr e4 (by decide)
    have nfB : ∀ (q : md_S) (k2 pl : Nat), MI m0 q → NF q k2 pl → ∃ y', (Option.bind (f_X12_isSign n q (44 : Int32)) fun p15 => f_X12_priv_L111 n rm a1 a2 (nI (8 + l)) (j2 + 1) p15.2 (p15.1)) = some y' ∧ MI m0 y'.1 ∧ NF y'.1 k2 pl := by
      intro q k2 pl h1 h2
      rw [nf_isSign h2, bs_some]
      obtain ⟨y, hy⟩ := nf_limL (n := n) (j := j2) (rm := rm) (a1 := a1) (a2 := a2) (a3 := nI (8 + l)) (x := 0) h2
      exact ⟨_, hy, h1, h2⟩
    rcases e5 with hX3 | ⟨hbw, hnf⟩
    · have hP3 : PolQ c3 m3 g g (l + 1) := hP.fr e3 e4 (by decide) (by decide)
      have h993 : cAr c3 99 0 l = nI z := by rw [cd_frA e3 (by decide) (by decide)]; exact h99
      have hS : RS c3 1 (8 + l) z := Or.inr ⟨rfl, by omega, by omega, by rw [hP3.2.2.2.2.2.1]; congr 1; omega, by rw [show 8 + l - 8 = l by omega]; exact h993⟩
      have hR3 : RtR c3 m3 (8 + l) z := by
        obtain ⟨y1, y2, y3⟩ := hP3.2.2.2.2.2.2.2.2 l (by omega)
        have : y1 = z := (nI_eq (by have := y3.2.1; omega) (by omega)).mp (y2.symm.trans h993)
        rw [this] at y3; exact y3
      refine outx_seq (right_ok hC hn hc3 hm3 hX3 hS hR3) ?_ ?_ (fun x q k2 pl h1 h2 => nfB q k2 pl h1 h2)
      · rintro v c1 b1 x m1 hc1 hm1 ⟨rfl, hz7, hk3, ⟨w1, w', L', hL, hX1⟩, hR1, hS1, hF⟩
        dsimp only
        have hP1 := hP3.right hF hR1 hS1 hz7 hS hR3
        have s4 : cAr c1 99 0 l = nI (z + 1) := by
          rcases hS1 with y | y
          · exact absurd y.1 (by decide)
          · have := y.2.2.2.2
            rw [show 8 + l - 8 = l by omega] at this
            exact this
        have fc1 : cd_fr lFc [] c c1 := cd_fr_tr e3 hF.2.2.2.2.2.2.1 (fun k hk => ⟨nin (by decide) hk, hk⟩) (fun _ y => ⟨y, y⟩)
        have fm1 : md_fr lFm m m1 := md_fr_tr e4 hF.2.2.2.2.2.2.2.1 (fun k hk => ⟨nin (by decide) hk, hk⟩)
        have hras : RAS c c1 m m1 := (RAS.fr e3 e4 (by decide) (by decide)).tr ⟨fun x h1 h2 => hF.1 x (by omega) (by omega), fun x h1 h2 => hF.2.1 x (by omega)⟩
        have h7 : mI m1 7 = mI m 7 := by rw [hF.2.2.2.2.2.2.2.2, e6 hX3.fine]
        rw [hX1.k.1, m_isSign hX1.fine hX1.mw sg44, bs_some]
        unfold f_X4_readPriv_J89
        rw [nI_1]
        by_cases hk44 : wK w' = 44
        · rw [if_pos hk44, if_pos hk44]
          obtain ⟨y, g1, g2, g3 | ⟨pl, g3, g4⟩ | g3⟩ := ih jj j2 (z + 1) c1 b1 m1 w' L' (by omega) (by omega) (by omega) hc1.here hm1 hX1 (by rw [hk44]; decide) hP1 s4
          · obtain ⟨r, k1, k2, k3, ⟨w9, L9, k4, k5⟩, k6, k7, k8, k9, k10⟩ := g3
            refine ⟨y, g1, g2, Or.inl ⟨r, k1, k2, k3, ⟨w9, L9, k4, ?_⟩, k6, cd_fr_tr fc1 k7 (fun _ y => ⟨y, y⟩) (fun _ y => ⟨y, y⟩), md_fr_tr fm1 k8 (fun _ y => ⟨y, y⟩), k9.trans h7, hras.tr k10⟩⟩
            rw [hL3, hL]; simp; omega
          · refine ⟨y, g1, g2, Or.inr (Or.inl ⟨pl, ?_, g4⟩)⟩
            rcases g3 with ⟨r, k1, k2, k3, k4, k5⟩ | g3
            · exact Or.inl ⟨r, k1, k2, k3, k4, cd_fr_tr fc1 k5 (fun _ y => ⟨y, y⟩) (fun _ y => ⟨y, y⟩)⟩
            · exact Or.inr g3
          · exact ⟨y, g1, g2, Or.inr (Or.inr g3)⟩
        · rw [if_neg hk44, if_neg hk44]
          obtain ⟨jj, rfl⟩ : ∃ q, jj = q + 1 := ⟨jj - 1, by omega⟩
          obtain ⟨j2, rfl⟩ : ∃ q, j2 = q + 1 := ⟨j2 - 1, by omega⟩
          refine ⟨(m1, 0), by rw [u_X12_priv_L111, if_pos rfl], hm1, Or.inl ⟨_, by rw [u_X4_readPriv_L47, if_pos rfl], hc1.here, rfl, ⟨w', L', hX1, ?_⟩, hP1, fc1, fm1, h7, hras⟩⟩
          rw [hL3, hL]; simp; omega
      · rintro v c1 b1 pl hc1 hbw ⟨rfl, q4⟩
        dsimp only
        rw [hbw.1, if_neg (by decide)]
        unfold f_X4_readPriv_J89
        obtain ⟨jj, rfl⟩ : ∃ q, jj = q + 1 := ⟨jj - 1, by omega⟩
        refine Or.inl ⟨_, by rw [u_X4_readPriv_L47, if_pos rfl], hc1.here, hbw, rfl, ?_⟩
        exact cd_fr_tr e3 q4 (fun k hk => ⟨nin (by decide) hk, hk⟩) (fun _ y => ⟨y, y⟩)
    · obtain ⟨c', b', g1, g2⟩ := c_needName0 (n := n) hC hc3.1 hbw.2 (by rw [hbw.1]; decide)
      have hbr : f_X4_readRight n c3 b (nI z) 1 = some (Sum.inr (c', b')) := by
        unfold f_X4_readRight
        refine ck_inr ?_ ⟨g2.2.2.2.1, g2.2.2.2.2.1⟩
        rw [g1, bs_some]
        exact ck_inr rfl (ble.refl _)
      obtain ⟨y', f1, f2, f3⟩ := nfB m3 1 (wF w3) hm3 hnf
      refine ⟨y', ?_, f2, Or.inr (Or.inl ⟨wF w3, Or.inr ⟨c', b', ?_, g2.tx hc3⟩, f3⟩)⟩
      · rw [nf_right hnf, bs_some]; exact f1
      · rw [hbr, bs_some]; exact ckx_inl rfl (ble.refl _)
