/-! fail, out -/
theorem i_fail {n mx d Z K st t : Nat} {C : Nat × Nat} {c c1 : cd_S} {b : cd_B} {m m1 : md_S} {D : PD} {h : HV} {Ls : List (List Int32)} {Fs : Nat → List FR} {f : FR} {r : List FR} {s : List SH} {e : EN} (hn : 40000 ≤ n) (hC : BC C) (hZ : Z + 1 < 2 ^ 31) (hr : RR n mx d Z C c b m c1 m1 D h Ls K st t Fs (f :: r)) (hA : AT c m m1 D h d t f r s e 22) : NXT n mx d Z C c b m c1 m1 D h K st t Fs (f :: r) := by
  obtain ⟨t1, t2, t3, t4, t5, ⟨t6, t7⟩, t8, t9, t10, ⟨t11, t12, t13, t14⟩, ⟨l1, l2, l3, l4, l5⟩⟩ := id hA
  obtain ⟨⟨hG, ⟨a1, a2, -⟩, -⟩, hB, hTC, hTM, -⟩ := id hr
  obtain ⟨r0, e', x1, x2⟩ := t1.nx t5.1 t6 (by decide) (by decide) (by decide) (by decide) (by decide)
  rw [show pops m1 e = 1 by unfold pops; rw [t6]; rfl] at x1
  have x1 : s = none :: r0 := x1
  rw [x1] at t2
  obtain ⟨v, V, w1, w2, w3⟩ := WT.n t2
  obtain ⟨c2, g1, g2, g3, g4⟩ := hTC.step (n := n) (j := nO 22) hB
  obtain ⟨c3, p1, p2, p3, p4⟩ := g3.pop (n := n) g2 t12 w1
  obtain ⟨w0, f1, f2, -⟩ := m_fetch (n := n) a2 t12 hTM t5 t10 t1 t6 t7 t9
  obtain ⟨m2, u1, u2, u3, u4⟩ := hTM.step t12 (j := 1)
  have hme2 : mI m2 127 = nI t := by rw [md_frI u4.1 (by decide)]; exact a2
  obtain ⟨m3, v1, v2, v3, v4⟩ := u3.pop (n := n) hme2 t12 w1 w2.n5
  have oc : OPC lc0 t c c3 := (g4.mo (by decide)).tr (p4.mo (by simp))
  have om : OPM lm0 t m m3 := (u4.mo (by decide)).tr (v4.mo (by decide))
  have hzz : sz (f :: r) = sz r + f.d + f.L.length + f.W.length := rfl
  have hlen : f.W.length = V.length + 1 := by rw [w1]; rfl
  obtain ⟨x, ex⟩ : ∃ x : Int32, x = if vS v = 0 then v.toInt32 else 5 := ⟨_, rfl⟩
  obtain ⟨k1, k2, k3, k4, k5⟩ := p3.fail (n := n) (x := x) p2
  refine fail_nxt (sY := [none]) (s2 := r0) (X0 := []) (W' := V) (p1 := f.p + 1) (c2 := cSI c3 237 t x) (b2 := b) (m2 := m3) hn hC hZ hr hA ?_ (ble.refl b) k2 k3 (by simp) k5 (oc.tr (k4.mo (by decide))) (fun m' hm' => ?_) v3.1 om x1 w3 (by show sz r + f.d + f.L.length + V.length < 32768; omega)
  · rw [c_fetch hB hTC t11 t5 t1 t6 t7 t9]
    refine c_ck ((j69_22 n t c b _ _ _ _).trans ?_) (Nat.le_refl _) (Nat.le_refl _)
    rw [g1, bs_some]
    unfold f_X1_failWith f_X1_failWith_J22
    dsimp only
    rw [p1, bs_some]
    dsimp only
    rw [c_vS, bs_some]
    dsimp only
    by_cases q : vS v = 0
    · rw [if_pos q] at ex
      rw [if_pos q, ← ex, k1, bs_some, bs_some]
    · rw [if_neg q] at ex
      rw [if_neg q, ← ex, k1, bs_some, bs_some]
  · refine f1.trans ((ms_22 n m _ _ _).trans ?_)
    rw [so_22]
    unfold f_X12_stepOther_J350 f_X12_stepWord
    rw [u1, bs_some, show nI (D.cb f.u + f.p) + 1 = nI (D.cb f.u + f.p) + nI 1 from rfl, u2, bs_some, v1, bs_some]
    dsimp only
    rw [if_neg (show ¬ (22 : Int32) = 23 by decide)]
    by_cases q : vS v = 0
    · rw [if_pos q] at ex
      rw [if_pos q, if_neg (show ¬ (22 : Int32) = 21 by decide), if_pos (show (22 : Int32) = 22 from rfl), v2, mv_n4 (by rw [q]; decide), ← ex, hm', bs_some, bs_some, bs_some]
    · rw [if_neg q] at ex
      rw [if_neg q, ← ex, hm', bs_some, bs_some, bs_some]
/-- thread t rests, as it is -/
theorem REST.rst {n mx d Z K st t : Nat} {C : Nat × Nat} {c c1 : cd_S} {b : cd_B} {m m1 : md_S} {D : PD} {h : HV} {Ls : List (List Int32)} {Fs : Nat → List FR} {F : List FR} (hr : REST n mx d Z c m c1 m1 D h Ls K st t Fs) (hB : Bd C c b) (hT : TC c t F) (hM : TM m t h.1 D.cb F) (hF : FTS h m1 D [] F) (hne : F ≠ []) : RSTS n mx d Z C c b (mSI m 128 0) c1 m1 D h Ls K st (fun x => if x = t then F else Fs x) := by
  obtain ⟨hG, ⟨a1, a2, a3, a4, a5, a6, a7⟩, hO⟩ := hr
  have fm : md_fr [128] m (mSI m 128 0) := md_fr_SI (md_fr_refl m [128]) (by simp) 0
  have hE := hG.2.2.2.1.2.2
  refine ⟨hG.fr3 (cd_fr_refl c [] []) fm (by simp) (by simp) (by decide) (by simp) (by decide) (hE.fr (cd_fr_refl c [] []) fm (by simp) (by simp) (by decide)), hB, mI_SIe, fun y hy => ?_⟩
  by_cases q : y = t
  · show THD c (mSI m 128 0) m1 D h K y (if y = t then F else Fs y)
    rw [if_pos q, q]
    refine ⟨a4, a5.fr (cd_fr_refl c [] []) fm (by simp) (by decide), fun z => ?_, fun _ => ⟨hne, hT, hM.mag (MAG.fr fm (by decide)), ?_⟩⟩
    · rw [mA_SI, a6] at z; exact absurd z (by decide)
    · rw [mA_SI, if_pos a7]; exact hF
  · show THD c (mSI m 128 0) m1 D h K y (if y = t then F else Fs y)
    rw [if_neg q]
    exact (hO y hy q).sag (SAG.refl c y) (MAG.fr fm (by decide)) (HVle.refl h)
theorem i_out {n mx d Z K st t : Nat} {C : Nat × Nat} {c c1 : cd_S} {b : cd_B} {m m1 : md_S} {D : PD} {h : HV} {Ls : List (List Int32)} {Fs : Nat → List FR} {f : FR} {r : List FR} {s : List SH} {e : EN} (hn : 40000 ≤ n) (hC : BC C) (hZ : Z + 1 < 2 ^ 31) (hr : RR n mx d Z C c b m c1 m1 D h Ls K st t Fs (f :: r)) (hA : AT c m m1 D h d t f r s e 21) : NXT n mx d Z C c b m c1 m1 D h K st t Fs (f :: r) := by
  obtain ⟨t1, t2, t3, t4, t5, ⟨t6, t7⟩, t8, t9, t10, ⟨t11, t12, t13, t14⟩, ⟨l1, l2, l3, l4, l5⟩⟩ := id hA
  obtain ⟨⟨hG, ⟨a1, a2, a3, a4, -⟩, -⟩, hB, hTC, hTM, -⟩ := id hr
  obtain ⟨r0, e', x1, x2⟩ := t1.nx t5.1 t6 (by decide) (by decide) (by decide) (by decide) (by decide)
  rw [show pops m1 e = 1 by unfold pops; rw [t6]; rfl] at x1
  have x1 : s = none :: r0 := x1
  rw [show psh e = [none] by unfold psh; rw [t6]; rfl] at x2
  rw [x1] at t2
  obtain ⟨v, V, w1, w2, w3⟩ := WT.n t2
  have hzz : sz (f :: r) = sz r + f.d + f.L.length + f.W.length := rfl
  have hvz : vsz (f :: r) = vsz r + vln f.W := rfl
  have hlen : f.W.length = V.length + 1 := by rw [w1]; rfl
  have hvln : vln V ≤ vln f.W := by rw [w1]; show vln V ≤ (if vS v = 5 then 0 else 1) + vln V; omega
  obtain ⟨c2, g1, g2, g3, g4⟩ := hTC.step (n := n) (j := nO 21) hB
  have hpk := g3.peek (n := n) (k := 0) g2 t12 (by show 0 < f.W.length; omega)
  have hpk : f_X7_peek n c2 t 0 = some (v, c2) := by
    refine hpk.trans ?_
    congr 2
    show f.W[0] = v
    simp only [w1]; rfl
  obtain ⟨w0, f1, f2, -⟩ := m_fetch (n := n) a2 t12 hTM t5 t10 t1 t6 t7 t9
  obtain ⟨m2, u1, u2, u3, u4⟩ := hTM.step t12 (j := 1)
  have hme2 : mI m2 127 = nI t := by rw [md_frI u4.1 (by decide)]; exact a2
  obtain ⟨m3, v1, v2, v3, v4⟩ := u3.pop (n := n) hme2 t12 w1 w2.n5
  have oc : OPC lc0 t c c2 := g4.mo (by decide)
  have om : OPM lm0 t m m3 := (u4.mo (by decide)).tr (v4.mo (by decide))
  have hfe := c_fetch (n := n) hB hTC t11 t5 t1 t6 t7 t9
  by_cases q : vS v = 0
  · have hv0 : mv h.1 v = v.toInt32 := mv_n4 (by rw [q]; decide)
    have hR2 := hr.1.op oc om
    obtain ⟨hG2, ⟨b1, b2, b3, b4, b5, b6, b7⟩, hO2⟩ := hR2
    obtain ⟨c4, b4', m4, k1, k2, k3, k4, k5, k6, k7⟩ := rec_ok (n := n) (a2 := 0) (a3 := v.toInt32) (a4 := -1) (a5 := -1) hC g2 hG2.2.2.2.1.2.2 hZ b4 b2
    have hG4 : GLB n mx d (Z + 1) c4 m4 c1 m1 D h Ls K st := hG2.fr3 k5 k6 (by decide) (by simp) (by decide) (by decide) (by decide) k7
    have hR4 : REST n mx d (Z + 1) c4 m4 c1 m1 D h Ls K st t Fs := by
      refine ⟨hG4, ⟨b1, ?_, ?_, ?_, b5.fr k5 k6 (by decide) (by decide), ?_, ?_⟩, fun y hy hyt => (hO2 y hy hyt).sag (SAG.fr k5 (by decide) (by simp; omega)) (MAG.fr k6 (by decide)) (HVle.refl h)⟩
      · rw [md_frI k6 (by decide)]; exact b2
      · rw [md_frI k6 (by decide)]; exact b3
      · rw [cd_frI k5 (by decide) (by decide)]; exact b4
      · rw [md_frA k6 (by decide)]; exact b6
      · rw [md_frA k6 (by decide)]; exact b7
    have hM4 := v3.mag (MAG.fr (t := t) k6 (by decide))
    have hme4 : mI m4 127 = nI t := by rw [md_frI k6 (by decide)]; exact b2
    obtain ⟨m5, j1, j2, j3⟩ := hM4.push (n := n) (x := v) (s := 0) (v := v.toInt32) hme4 t12 q.symm (by decide) hv0.symm (by show vsz r + vln V < 9000; omega)
    have hR5 := hR4.op (OPC.refl lc0 t c4) (j3.mo (by decide))
    have hT4 : TC c4 t (f.sp (f.p + 1) :: r) := g3.sag (SAG.fr k5 (by decide) (by simp; omega))
    have hM5 : TM m5 t h.1 D.cb (f.sp (f.p + 1) :: r) := by
      have e1 : ((f.sp (f.p + 1)).sW V).sW (v :: V) = f.sp (f.p + 1) := by
        rw [← w1]; rfl
      have j2' := j2
      rw [show v :: ((f.sp (f.p + 1)).sW V).W = v :: V from rfl, e1] at j2'
      exact j2'
    have hF5 : FTS h m1 D [] (f.sp (f.p + 1) :: r) := ⟨⟨t3.1, t3.2.1, t3.2.2⟩, ⟨none :: r0, e', x2, by show WT h (D.P f.u) (none :: r0) f.W; exact t2⟩, t4⟩
    have hrs := (hR5.mo (show Z + 1 ≤ Z + 2 by omega)).rst (C := C) (b := b4') k3 hT4 hM5 hF5 (by simp)
    refine ⟨1, 1, c4, b4', mSI m5 128 0, by omega, ⟨(by decide : (0 : Int32) ≠ 1), _, ?_, k4, rfl⟩, ?_, Or.inr ⟨rfl, Or.inr ⟨h, Ls, K, st, _, HVle.refl h, hrs, fun x _ hx => if_neg hx, Or.inl ⟨rfl, ?_⟩⟩⟩⟩
    · show f_X1_step n c b t = _
      rw [hfe]
      refine c_ck ((j69_21 n t c b _ _ _ _).trans ?_) k4.1 k4.2
      rw [g1, bs_some]
      unfold f_X1_writeOut
      dsimp only
      rw [hpk, bs_some]
      dsimp only
      rw [c_vS, bs_some]
      dsimp only
      rw [if_pos q, k1, bs_some]
      rw [c_ck (b := b) (c_ck (fb := fun (q : (Int32 × cd_S × cd_B)) => q.2.2) (b := b4') rfl (Nat.le_refl _) (Nat.le_refl _)) k4.1 k4.2, bs_some]
      exact c_ck rfl (Nat.le_refl _) (Nat.le_refl _)
    · refine f1.trans ((ms_21 n m _ _ _).trans ?_)
      rw [so_21]
      unfold f_X12_stepOther_J350 f_X12_stepWord
      rw [u1, bs_some, show nI (D.cb f.u + f.p) + 1 = nI (D.cb f.u + f.p) + nI 1 from rfl, u2, bs_some, v1, bs_some]
      dsimp only
      rw [if_neg (show ¬ (21 : Int32) = 23 by decide), if_pos q, if_pos (show (21 : Int32) = 21 from rfl), v2, hv0, k2, bs_some]
      dsimp only
      rw [j1, bs_some, bs_some, bs_some, bs_some]
    · show μ D mx (if t = t then f.sp (f.p + 1) :: r else Fs t) st < _
      rw [if_pos rfl]
      have h1 := rm_lt t1 (show f.p < f.p + 1 by omega)
      have h2 : μF D (f.sp (f.p + 1) :: r) = rm D f.u (f.p + 1) + 1 + μF D r := rfl
      have h3 : μF D (f :: r) = rm D f.u f.p + 1 + μF D r := rfl
      unfold μ; omega
  · obtain ⟨k1, k2, k3, k4, k5⟩ := g3.fail (n := n) (x := 5) g2
    refine fail_nxt (sY := [none]) (s2 := r0) (X0 := [v]) (W' := V) (p1 := f.p + 1) (c2 := cSI c2 237 t 5) (b2 := b) (m2 := m3) hn hC hZ hr hA ?_ (ble.refl b) k2 ?_ (fun y hy => ?_) k5 (oc.tr (k4.mo (by decide))) (fun m' hm' => ?_) v3.1 om x1 w3 (by show sz r + f.d + f.L.length + ([v] ++ V).length < 32768; rw [List.singleton_append, List.length_cons]; omega)
    · rw [hfe]
      refine c_ck ((j69_21 n t c b _ _ _ _).trans ?_) (Nat.le_refl _) (Nat.le_refl _)
      rw [g1, bs_some]
      unfold f_X1_writeOut
      dsimp only
      rw [hpk, bs_some]
      dsimp only
      rw [c_vS, bs_some]
      dsimp only
      rw [if_neg q, k1, bs_some]
      rw [c_ck (fb := fun (q : (Int32 × cd_S × cd_B)) => q.2.2) (b := b) rfl (Nat.le_refl _) (Nat.le_refl _), bs_some]
      exact c_ck rfl (Nat.le_refl _) (Nat.le_refl _)
    · have e1 : (f.sp (f.p + 1)).sW ([v] ++ V) = f.sp (f.p + 1) := by
        rw [List.singleton_append, ← w1]; rfl
      rw [e1]; exact k3
    · rw [List.mem_singleton.mp hy]; exact w2.n5
    · refine f1.trans ((ms_21 n m _ _ _).trans ?_)
      rw [so_21]
      unfold f_X12_stepOther_J350 f_X12_stepWord
      rw [u1, bs_some, show nI (D.cb f.u + f.p) + 1 = nI (D.cb f.u + f.p) + nI 1 from rfl, u2, bs_some, v1, bs_some]
      dsimp only
      rw [if_neg (show ¬ (21 : Int32) = 23 by decide), if_neg q, hm', bs_some, bs_some, bs_some]
