/-! a frame ends -/
theorem i_back {n mx d Z K st t : Nat} {C : Nat × Nat} {c c1 : cd_S} {b : cd_B} {m m1 : md_S} {D : PD} {h : HV} {Ls : List (List Int32)} {Fs : Nat → List FR} {f : FR} {r : List FR} {s : List SH} {e : EN} (hC : BC C) (hr : RR n mx d Z C c b m c1 m1 D h Ls K st t Fs (f :: r)) (hA : AT c m m1 D h d t f r s e 28) : NXT n mx d Z C c b m c1 m1 D h K st t Fs (f :: r) := by
  obtain ⟨t1, t2, t3, t4, t5, ⟨t6, t7⟩, t8, t9, t10, ⟨t11, t12, t13, t14⟩, ⟨l1, l2, l3, l4, l5⟩⟩ := id hA
  obtain ⟨⟨hG, ⟨a1, a2, a3, a4, a5, a6, a7⟩, hO⟩, hB, hTC, hTM, -⟩ := id hr
  have hs := t1.last t5.1 t6
  rw [hs] at t2
  obtain ⟨v, V, w1, w2, w3⟩ := WT.n t2
  have hV : V = [] := by
    cases V with
    | nil => rfl
    | cons _ _ => exact w3.elim
  rw [hV] at w1
  have hzz : sz (f :: r) = sz r + f.d + f.L.length + f.W.length := rfl
  have hvz : vsz (f :: r) = vsz r + vln f.W := rfl
  have htz : tsz (f :: r) = tsz r + mln f.W := rfl
  have hlz : lsz (f :: r) = lsz r + f.L.length := rfl
  have hv1 : vln f.W = 1 := by rw [w1]; show (if vS v = 5 then 0 else 1) + 0 = 1; rw [if_neg w2.n5]
  have hm0 : mln f.W = 0 := by rw [w1]; show (if vS v = 5 then 1 else 0) + 0 = 0; rw [if_neg w2.n5]
  obtain ⟨c2, g1, g2, g3, g4⟩ := hTC.step (n := n) (j := nO 28) hB
  obtain ⟨c3, p1, p2, p3, p4⟩ := g3.pop (n := n) g2 t12 w1
  obtain ⟨c4, y1, y2, y3, y4, y5⟩ := p3.leave (n := n) p2 t12
  obtain ⟨w0, f1, f2, -⟩ := m_fetch (n := n) a2 t12 hTM t5 t10 t1 t6 t7 t9
  have oc : OPC lc0 t c c4 := ((g4.mo (by decide)).tr (p4.mo (by simp))).tr (y4.mo (by decide))
  have hfe := c_fetch (n := n) hB hTC t11 t5 t1 t6 t7 t9
  obtain ⟨m2, em2⟩ : ∃ m2, m2 = mSA (mSA m 111 t (nI r.length)) 117 t (nI (lsz r)) := ⟨_, rfl⟩
  have om : OPM [111, 117] t m m2 := by
    rw [em2]
    exact ((opm_1 (m := m) (g := 111) (by decide)).mo (by simp)).tr ((opm_1 (g := 117) (by decide)).mo (by simp))
  have o : ∀ g, g ≠ 111 → g ≠ 117 → ∀ i, mA m2 g i = mA m g i := fun g q1 q2 i => md_frA om.1 (by simp; omega) i
  have h111 : mA m2 111 t = nI r.length := by rw [em2, mA_SAo (by decide), mA_SAe]
  have hme2 : mI m2 127 = nI t := by rw [md_frI om.1 (by decide)]; exact a2
  have hsb : f_X12_stepBack n m (nI (60 * t + r.length)) = (if nI r.length ≤ 0 then (Option.bind (f_X12_pop n m2) fun p6 => Option.bind (mstA p6.2 109 ((mI m2 127)) (p6.1)) fun σ7 => Option.bind (mstA σ7 110 ((mI σ7 127)) ((mI σ7 135))) fun σ8 => Option.bind (mstA σ8 106 ((mI σ8 127)) 1) fun σ9 => Option.bind (some (mSI σ9 128 0)) fun σ10 => some ((0 : Int32), σ10)) else (some ((0 : Int32), m2))) := by
    unfold f_X12_stepBack
    have h1 := hTM.1.1
    rw [List.length_cons] at h1
    rw [a2, m_ld111 t12, bs_some, h1, show (1 : Int32) = nI 1 from rfl, nI_sub (by omega), Nat.add_sub_cancel, m_st111 t12, bs_some, m_ld114 (by omega), bs_some, mA_SAo (by decide), hTM.1.2.2.2.2.2.1.2.2.1, mI_SA, a2, m_st117 t12, bs_some, ← em2, hme2, m_ld111 t12, bs_some, h111]
  have hstep : f_X1_step n c b t = cd_ck (fun (q : (Int32 × cd_S × cd_B)) => q.2.2) b (Option.bind (cd_ck (fun (q : (Int32 × cd_S × cd_B)) => q.2.2) b (if nI r.length ≤ 0 then (Option.bind (f_X7_finish n c4 t (1 : Int32) v) fun p3 => some (((1 : Int32), p3.2, b))) else (Option.bind (f_X1_push n c4 b t v) fun p4 => cd_ck (fun (q : (Int32 × cd_S × cd_B)) => q.2.2) (p4.2.2) <| some ((p4.1, p4.2.1, p4.2.2))))) fun p56 => cd_ck (fun (q : (Int32 × cd_S × cd_B)) => q.2.2) (p56.2.2) <| some ((p56.1, p56.2.1, p56.2.2))) := by
    rw [hfe]
    congr 1
    refine (j69_28 n t c b _ _ _ _).trans ?_
    rw [g1, bs_some]
    unfold f_X1_back
    dsimp only
    rw [p1, bs_some]
    dsimp only
    rw [y1, bs_some]
    dsimp only
    rw [y5]
  cases r with
  | nil =>
    have hi : nI ([] : List FR).length ≤ 0 := by decide
    rw [if_pos hi] at hsb hstep
    obtain ⟨⟨x1, x2, x3, x4, x5, ⟨x6, x7, x8, x9, x10⟩, x11, x12, -⟩, x13⟩ := hTM
    rw [w1] at x12
    have x14 := x12.1
    rw [if_neg w2.n5] at x14
    have x14a : mA m 121 (9000 * t) = vS v := x14.1
    have x14b : mA m 122 (9000 * t) = mv h.1 v := x14.2
    have x13 : mA m 120 t = nI 1 := by
      rw [x13]; congr 1
      show 0 + vln f.W = 1
      omega
    -- the model's end
    obtain ⟨m5, em5⟩ : ∃ m5, m5 = mSA (mSA (mSA (mSI (mSA m2 120 t (nI 0)) 135 (mv h.1 v)) 109 t (vS v)) 110 t (mv h.1 v)) 106 t 1 := ⟨_, rfl⟩
    have om5 : OPM [106, 109, 110, 111, 117, 120, 135] t m m5 := by
      rw [em5]
      exact (((((om.mo (by simp)).tr ((opm_1 (g := 120) (by decide)).mo (by simp))).tr (opm_i.mo (by simp))).tr ((opm_1 (g := 109) (by decide)).mo (by simp))).tr ((opm_1 (g := 110) (by decide)).mo (by simp))).tr ((opm_1 (g := 106) (by decide)).mo (by simp))
    have hsb2 : f_X12_stepBack n m (nI (60 * t + ([] : List FR).length)) = some (0, mSI m5 128 0) := by
      rw [hsb]
      unfold f_X12_pop
      rw [hme2, m_ld120 t12, bs_some, o 120 (by decide) (by decide), x13, show (1 : Int32) = nI 1 from rfl, nI_sub (by omega), m_st120 t12, bs_some, mI_SA, hme2, m_ld120 t12, bs_some, mA_SAe, show (9000 : Int32) = nI 9000 from rfl, nI_mul, nI_add, m_ld122 (by omega), bs_some, mA_SAo (by decide), o 122 (by decide) (by decide), show 9000 * t + (1 - 1) = 9000 * t by omega, x14b, bs_some, mI_SIo (by decide), mI_SA, hme2, m_ld120 t12, bs_some, mA_SI, mA_SAe, nI_mul, nI_add, m_ld121 (by omega), bs_some, mA_SI, mA_SAo (by decide), o 121 (by decide) (by decide), show 9000 * t + (1 - 1) = 9000 * t by omega, x14a, bs_some]
      dsimp only
      rw [m_st109 t12, bs_some, mI_SA, mI_SIo (by decide), mI_SA, hme2, mI_SA, mI_SIe, m_st110 t12, bs_some, mI_SA, mI_SA, mI_SIo (by decide), mI_SA, hme2, m_st106 t12, bs_some, bs_some, em5]
      rfl
    obtain ⟨c5, ec5⟩ : ∃ c5, c5 = cSJ (cSI c4 234 t 1) 236 t v := ⟨_, rfl⟩
    have hB5 : Bd C c5 b := by rw [ec5]; exact (y2.SI (by decide) _ _).SJ _ _ _
    have oc5 : OPC [225, 232, 234, 236] t c c5 := by
      rw [ec5]
      exact (((((g4.mo (by simp)).tr (p4.mo (by simp))).tr (y4.mo (by simp)))).tr ((opc_I (by decide)).mo (by simp))).tr (opc_J.mo (by simp))
    have fm : md_fr [106, 109, 110, 111, 117, 120, 128, 135] m (mSI m5 128 0) := md_fr_SI (md_fr_mono om5.1 (by decide)) (by simp) _
    have gm : ∀ y, MAG m5 (mSI m5 128 0) y := fun y => MAG.fr (md_fr_SI (md_fr_refl m5 [128]) (by simp) 0) (by decide)
    refine ⟨1, 1, c5, b, mSI m5 128 0, by omega, ⟨(by decide : (0 : Int32) ≠ 1), _, ?_, ble.refl b, rfl⟩, ?_, Or.inr ⟨rfl, Or.inr ⟨h, Ls, K, st, fun y => if y = t then [] else Fs y, HVle.refl h, ⟨?_, hB5, mI_SIe, fun y hy => ?_⟩, fun x _ hx => if_neg hx, Or.inl ⟨rfl, ?_⟩⟩⟩⟩
    · show f_X1_step n c b t = _
      rw [hstep]
      unfold f_X7_finish
      rw [bs_some, bs_some, bs_some]
      rw [c_ck (fb := fun (q : (Int32 × cd_S × cd_B)) => q.2.2) (b := b) rfl (Nat.le_refl _) (Nat.le_refl _), bs_some, ec5]
      exact c_ck (c_ck rfl (Nat.le_refl _) (Nat.le_refl _)) (Nat.le_refl _) (Nat.le_refl _)
    · refine f1.trans ((ms_28 n m _ _ _).trans ?_)
      rw [hsb2, bs_some]
    · exact (hG.mo (Nat.le_add_right Z 2)).fr3 oc5.1 fm (by decide) (fun y hy => by simp at hy; omega) (by decide) (by decide) (by decide) ((hG.2.2.2.1.2.2.mo (Nat.le_add_right Z 2)).fr oc5.1 fm (by decide) (by simp; omega) (by decide))
    · by_cases q : y = t
      · show THD c5 (mSI m5 128 0) m1 D h K y (if y = t then [] else Fs y)
        rw [q, if_pos rfl]
        have m106 : mA (mSI m5 128 0) 106 t = 1 := by rw [mA_SI, em5, mA_SAe]
        have m110 : mA (mSI m5 128 0) 110 t = mv h.1 v := by rw [mA_SI, em5, mA_SAo (by decide), mA_SAe]
        have m109 : mA (mSI m5 128 0) 109 t = vS v := by rw [mA_SI, em5, mA_SAo (by decide), mA_SAo (by decide), mA_SAe]
        have c236 : cJ c5 236 t = v := by rw [ec5, cJ_SJ, if_pos ⟨rfl, rfl⟩]
        obtain ⟨b1, b2, b3, b4', b5⟩ := a5
        refine ⟨?_, ⟨?_, ?_, ?_, ?_, Or.inr (Or.inl ⟨m106, by rw [c236, m109], fun z => ?_⟩)⟩, fun z => ?_, fun z => ?_⟩
        · rw [cd_frI oc5.1 (by decide) (by decide)]; exact a4
        · rw [m106, ec5]
          show cI (cSI c4 234 t 1) 234 t = 1
          exact cI_SIe
        · rw [cd_frI oc5.1 (by decide) (by decide), b2, md_frA fm (by decide)]
        · rw [cd_frI oc5.1 (by decide) (by decide), b3, md_frA fm (by decide)]
        · rw [md_frA fm (by decide)]; exact b4'
        · rw [m109] at z
          rw [c236, m110, mv_n4 (by rw [z]; decide)]
        · rw [c236, m110]; exact ⟨w2, rfl⟩
        · rw [m106] at z; exact absurd z (by decide)
      · show THD c5 (mSI m5 128 0) m1 D h K y (if y = t then [] else Fs y)
        rw [if_neg q]
        exact (hO y hy q).sag (oc5.2 y q) ((om5.2 y q).tr (gm y)) (HVle.refl h)
    · show μ D mx (if t = t then [] else Fs t) st < _
      rw [if_pos rfl]
      have h3 : μF D [f] = rm D f.u f.p + 1 + 0 := rfl
      have h4 : μF D [] = 0 := rfl
      unfold μ; omega
  | cons g r' =>
    have hi : ¬ nI (g :: r').length ≤ 0 := fun z => absurd ((nI_leI (b := 0) (by omega) (by decide)).mp z) (by rw [List.length_cons]; omega)
    rw [if_neg hi] at hsb hstep
    have hzr : sz (g :: r') = sz r' + g.d + g.L.length + g.W.length := rfl
    obtain ⟨c5, b5, k1, k2, k3, k4, k5⟩ := y3.push (n := n) (v := v) hC y2 t12 (by omega)
    obtain ⟨fi, ⟨s2, e2, z1, z2⟩, hF2⟩ := t4
    have hM2 : TM m2 t h.1 D.cb (g.sW (v :: g.W) :: r') := by
      obtain ⟨⟨x1, x2, x3, x4, x5, ⟨x6, x7, x8, x9, x10⟩, x11, x12, x13, x14, x15, x16⟩, x17⟩ := hTM
      rw [w1] at x12
      have x18 := x12.1
      rw [if_neg w2.n5] at x18
      have ev : vsz (g.sW (v :: g.W) :: r') = vsz (f :: g :: r') := by
        show vsz r' + ((if vS v = 5 then 0 else 1) + vln g.W) = vsz r' + vln g.W + vln f.W
        rw [if_neg w2.n5, hv1]; omega
      have et : tsz (g.sW (v :: g.W) :: r') = tsz (f :: g :: r') := by
        show tsz r' + ((if vS v = 5 then 1 else 0) + mln g.W) = tsz r' + mln g.W + mln f.W
        rw [if_neg w2.n5, hm0]; omega
      have el : lsz (g.sW (v :: g.W) :: r') = lsz (g :: r') := rfl
      refine ⟨⟨?_, by rw [List.length_cons] at l5 ⊢; omega, ?_, ?_, ⟨by omega, by omega, by omega⟩, ?_, fun i hi => ?_, ⟨?_, ?_⟩, ?_⟩, ?_⟩
      · rw [h111]; rfl
      · rw [em2, mA_SAe]; rfl
      · rw [et, o 123 (by decide) (by decide)]; exact x4
      · obtain ⟨j1, j2, j3, j4, j5⟩ := x13
        exact ⟨by rw [o 112 (by decide) (by decide)]; exact j1, by rw [o 113 (by decide) (by decide)]; exact j2, by rw [o 114 (by decide) (by decide)]; exact j3, fun z => by rw [o 115 (by decide) (by decide)]; exact j4 z, by rw [o 116 (by decide) (by decide)]; exact j5⟩
      · rw [o 118 (by decide) (by decide), o 119 (by decide) (by decide)]; exact x14 i hi
      · rw [if_neg w2.n5, o 121 (by decide) (by decide), o 122 (by decide) (by decide)]; exact x18
      · exact x15.of (fun g j q _ hj => o g (by omega) (by omega) _) (fun g j q1 q2 _ _ => o g (by omega) (by omega) _)
      · exact x16.of (fun g k q1 q2 _ => o g (by omega) (by omega) _) (fun g j q _ => o g (by omega) (by omega) _) (fun g j q hj => o g (by omega) (by omega) _) (fun g j q1 q2 hj => o g (by omega) (by omega) _)
      · rw [ev, o 120 (by decide) (by decide)]; exact x17
    have hRR : RR n mx d Z C c5 b5 m2 c1 m1 D h Ls K st t Fs (g.sW (v :: g.W) :: r') := ⟨hr.1.op (oc.tr (k5.mo (by simp))) (om.mo (by decide)), k2, k4, hM2, ⟨⟨fi.1, fi.2.1, fi.2.2⟩, ⟨none :: s2, e2, z1, w2, z2⟩, hF2⟩⟩
    refine GOs.nxt (Ls := Ls) ⟨c5, b5, m2, _, ?_, k3, ?_, hRR, by simp, ?_⟩
    · rw [hstep, k1, bs_some]
      rw [c_ck (b := b) (c_ck (fb := fun (q : (Int32 × cd_S × cd_B)) => q.2.2) (b := b5) rfl (Nat.le_refl _) (Nat.le_refl _)) k3.1 k3.2, bs_some]
      exact c_ck (c_ck rfl (Nat.le_refl _) (Nat.le_refl _)) k3.1 k3.2
    · refine f1.trans ((ms_28 n m _ _ _).trans ?_)
      rw [hsb, bs_some]
    · show rm D g.u g.p + 1 + μF D r' < rm D f.u f.p + 1 + (rm D g.u g.p + 1 + μF D r')
      omega
