/-! small instructions: put, drop, go, try, tried -/
theorem i_drop {n mx d Z K st t : Nat} {C : Nat × Nat} {c c1 : cd_S} {b : cd_B} {m m1 : md_S} {D : PD} {h : HV} {Ls : List (List Int32)} {Fs : Nat → List FR} {f : FR} {r : List FR} {s : List SH} {e : EN} (hr : RR n mx d Z C c b m c1 m1 D h Ls K st t Fs (f :: r)) (hA : AT c m m1 D h d t f r s e 16) : GOs n mx d Z C c b m c1 m1 D h Ls K st t Fs (f :: r) := by
  obtain ⟨t1, t2, t3, t4, t5, ⟨t6, t7⟩, t8, t9, t10, ⟨t11, t12, t13, t14⟩, ⟨l1, l2, l3, l4, l5⟩⟩ := id hA
  obtain ⟨⟨hG, ⟨a1, a2, -⟩, -⟩, hB, hTC, hTM, -⟩ := id hr
  obtain ⟨r0, e', x1, x2⟩ := t1.nx t5.1 t6 (by decide) (by decide) (by decide) (by decide) (by decide)
  rw [show pops m1 e = 1 by unfold pops; rw [t6]; rfl] at x1
  rw [show psh e = [] by unfold psh; rw [t6]; rfl] at x2
  rw [x1] at t2
  obtain ⟨v, V, w1, w2, w3⟩ := WT.n (s := r0) t2
  obtain ⟨c2, g1, g2, g3, g4⟩ := hTC.step (n := n) (j := nO 16) hB
  obtain ⟨c3, p1, p2, p3, p4⟩ := g3.pop (n := n) g2 t12 w1
  obtain ⟨w0, f1, f2, -⟩ := m_fetch (n := n) a2 t12 hTM t5 t10 t1 t6 t7 t9
  obtain ⟨m2, u1, u2, u3, u4⟩ := hTM.step t12 (j := 1)
  have hme2 : mI m2 127 = nI t := by rw [md_frI u4.1 (by decide)]; exact a2
  obtain ⟨m3, v1, v2, v3, v4⟩ := u3.pop (n := n) hme2 t12 w1 w2.n5
  refine GOs.mk hr hA (f' := (f.sp (f.p + 1)).sW V) (c' := c3) (b' := b) (m' := m3) (s' := r0) (e' := e') ?_ (ble.refl b) ?_ p2 p3 v3 ((g4.mo (by decide)).tr (p4.mo (by simp))) ((u4.mo (by decide)).tr (v4.mo (by decide))) ⟨t3.1, t3.2.1, t3.2.2⟩ x2 w3 rfl (by show f.p < f.p + 1; omega)
  · rw [c_fetch hB hTC t11 t5 t1 t6 t7 t9]
    refine c_ck ((j69_16 n t c b _ _ _ _).trans ?_) (Nat.le_refl _) (Nat.le_refl _)
    rw [g1, bs_some]
    unfold f_X1_drop
    dsimp only
    rw [p1, bs_some, bs_some]
  · refine f1.trans ((ms_16 n m _ _ _).trans ?_)
    rw [u1, bs_some, show nI (D.cb f.u + f.p) + 1 = nI (D.cb f.u + f.p) + nI 1 from rfl, u2, bs_some, v1, bs_some]
theorem i_put {n mx d Z K st t : Nat} {C : Nat × Nat} {c c1 : cd_S} {b : cd_B} {m m1 : md_S} {D : PD} {h : HV} {Ls : List (List Int32)} {Fs : Nat → List FR} {f : FR} {r : List FR} {s : List SH} {e : EN} (hr : RR n mx d Z C c b m c1 m1 D h Ls K st t Fs (f :: r)) (hA : AT c m m1 D h d t f r s e 3) : GOs n mx d Z C c b m c1 m1 D h Ls K st t Fs (f :: r) := by
  obtain ⟨t1, t2, t3, t4, t5, ⟨t6, t7⟩, t8, t9, t10, ⟨t11, t12, t13, t14⟩, ⟨l1, l2, l3, l4, l5⟩⟩ := id hA
  obtain ⟨⟨hG, ⟨a1, a2, -⟩, -⟩, hB, hTC, hTM, -⟩ := id hr
  have hi : D.lo f.u e.2.1 < f.L.length := by rw [t3.2.1]; exact t8.2.2.1 (Or.inr t6)
  have ho : opd (D.lo f.u) (D.P f.u) e = D.lo f.u e.2.1 := opd_l (Or.inr t6)
  obtain ⟨r0, e', x1, x2⟩ := t1.nx t5.1 t6 (by decide) (by decide) (by decide) (by decide) (by decide)
  rw [show pops m1 e = 1 by unfold pops; rw [t6]; rfl] at x1
  rw [show psh e = [] by unfold psh; rw [t6]; rfl] at x2
  rw [x1] at t2
  obtain ⟨v, V, w1, w2, w3⟩ := WT.n (s := r0) t2
  obtain ⟨c2, g1, g2, g3, g4⟩ := hTC.step (n := n) (j := nO 3) hB
  obtain ⟨c3, p1, p2, p3, p4⟩ := g3.pop (n := n) g2 t12 w1
  obtain ⟨c4, y1, y2, y3, y4⟩ := p3.setl (n := n) (i := D.lo f.u e.2.1) (v := v) p2 t12 hi
  obtain ⟨w0, f1, f2, -⟩ := m_fetch (n := n) a2 t12 hTM t5 t10 t1 t6 t7 t9
  obtain ⟨m2, u1, u2, u3, u4⟩ := hTM.step t12 (j := 3)
  have hme2 : mI m2 127 = nI t := by rw [md_frI u4.1 (by decide)]; exact a2
  obtain ⟨m3, v1, v2, v3, v4⟩ := u3.pop (n := n) hme2 t12 w1 w2.n5
  have hme3 : mI m3 127 = nI t := by rw [md_frI v4.1 (by decide)]; exact hme2
  obtain ⟨m4, z1, z2, z3⟩ := v3.setl (n := n) (i := D.lo f.u e.2.1) (x := v) (s := vS v) (v := mv h.1 v) t12 hi rfl rfl
  refine GOs.mk hr hA (f' := ((f.sp (f.p + 3)).sW V).sL (f.L.set (D.lo f.u e.2.1) v)) (c' := c4) (b' := b) (m' := m4) (s' := r0) (e' := e') ?_ (ble.refl b) ?_ y2 y3 z2 (((g4.mo (by decide)).tr (p4.mo (by simp))).tr (y4.mo (by simp))) (((u4.mo (by decide)).tr (v4.mo (by decide))).tr (z3.mo (by decide))) ⟨t3.1, ?_, fun x hx => ?_, t3.2.2.2⟩ x2 w3 rfl (by show f.p < f.p + 3; omega)
  · rw [c_fetch hB hTC t11 t5 t1 t6 t7 t9]
    refine c_ck ((j69_3 n t c b _ _ _ _).trans ?_) (Nat.le_refl _) (Nat.le_refl _)
    rw [g1, bs_some]
    unfold f_X1_put
    dsimp only
    rw [g3.base, bs_some]
    dsimp only
    rw [p1, bs_some]
    dsimp only
    rw [if_neg (by decide), ho]
    have y5 : f_X6_set n c3 (9 + 1 * t) (nI (sz r + (f.sp (f.p + (1 + 2 * nO 3))).d) + nI (D.lo f.u e.2.1)) v = some (0, c4) := y1
    rw [y5, bs_some, bs_some]
  · refine f1.trans ((ms_3 n m _ _ _).trans ?_)
    rw [u1, bs_some, show nI (D.cb f.u + f.p) + 3 = nI (D.cb f.u + f.p) + nI 3 from rfl, u2, bs_some, v1, bs_some]
    dsimp only
    rw [hme3, f2 (by decide), ho, v2, z1, bs_some]
  · show (f.L.set (D.lo f.u e.2.1) v).length = D.L f.u
    rw [List.length_set]; exact t3.2.1
  · rcases List.mem_or_eq_of_mem_set hx with q | q
    · exact t3.2.2.1 x q
    · rw [q]; exact w2
theorem i_go {n mx d Z K st t : Nat} {C : Nat × Nat} {c c1 : cd_S} {b : cd_B} {m m1 : md_S} {D : PD} {h : HV} {Ls : List (List Int32)} {Fs : Nat → List FR} {f : FR} {r : List FR} {s : List SH} {e : EN} (hr : RR n mx d Z C c b m c1 m1 D h Ls K st t Fs (f :: r)) (hA : AT c m m1 D h d t f r s e 17) : GOs n mx d Z C c b m c1 m1 D h Ls K st t Fs (f :: r) := by
  obtain ⟨t1, t2, t3, t4, t5, ⟨t6, t7⟩, t8, t9, t10, ⟨t11, t12, t13, t14⟩, ⟨l1, l2, l3, l4, l5⟩⟩ := id hA
  obtain ⟨⟨hG, ⟨a1, a2, -⟩, -⟩, hB, hTC, hTM, -⟩ := id hr
  have ho : opd (D.lo f.u) (D.P f.u) e = D.P f.u e.2.1 := opd_j (Or.inl t6)
  obtain ⟨e', x2⟩ := t1.jump t5.1 (Or.inl t6)
  have hΛ : D.Λ f.u e.2.1 = s := (t1.ok t5.1).2.2.2.1 t6
  have hah := (t5.2.2.2.2.2.2.1 f.p s e t1).2 (Or.inl t6)
  rw [eb_ql t6 t7] at hah
  rw [hΛ] at x2
  obtain ⟨c2, g1, g2, g3, g4⟩ := hTC.step (n := n) (j := nO 17) hB
  obtain ⟨c3, p1, p2, p3, p4⟩ := g3.go (n := n) (p := D.P f.u e.2.1) g2
  obtain ⟨w0, f1, f2, -⟩ := m_fetch (n := n) a2 t12 hTM t5 t10 t1 t6 t7 t9
  obtain ⟨z1, z2⟩ := hTM.go (p := D.P f.u e.2.1)
  obtain ⟨-, u2, u3, -⟩ := hTM.pl t12
  refine GOs.mk hr hA (f' := f.sp (D.P f.u e.2.1)) (c' := c3) (b' := b) (m' := _) (s' := s) (e' := e') ?_ (ble.refl b) ?_ p2 p3 z1 ((g4.mo (by decide)).tr (p4.mo (by decide))) (z2.mo (by decide)) ⟨t3.1, t3.2.1, t3.2.2⟩ x2 t2 rfl (by show f.p < D.P f.u e.2.1; omega)
  · rw [c_fetch hB hTC t11 t5 t1 t6 t7 t9]
    refine c_ck ((j69_17 n t c b _ _ _ _).trans ?_) (Nat.le_refl _) (Nat.le_refl _)
    rw [g1, bs_some]
    unfold f_X1_jump
    dsimp only
    rw [if_neg (by decide), ho, p1, bs_some, bs_some]
  · refine f1.trans ((ms_17 n m _ _ _).trans ?_)
    rw [u2, bs_some, show (2 : Int32) = nI 2 from rfl, nI_mul, m_ld76 (by omega), bs_some, t5.2.2.2.1.1, f2 (by decide), ho, nI_add, u3, bs_some]
/-- a try is on -/
theorem TM.mark {t p : Nat} {m : md_S} {rw : Bool} {cb : Nat → Nat} {f : FR} {r : List FR} (ht : t < 8) (h : TM m t rw cb (f :: r)) (hb : tsz (f :: r) < 1500) : ∃ m', m' = mSA (mSA (mSA (mSA m 124 (1500 * t + tsz (f :: r)) (nI (r.length + 1))) 125 (1500 * t + tsz (f :: r)) (nI (vsz (f :: r)))) 126 (1500 * t + tsz (f :: r)) (nI (cb f.u) + nI p)) 123 t (nI (tsz (f :: r) + 1)) ∧ TM m' t rw cb (f.sW (vv 5 (nI p) :: f.W) :: r) ∧ OPM [123, 124, 125, 126] t m m' := by
  obtain ⟨⟨h1, h2, h3, h4, h5', ⟨a1, a2, a3, a4, a5⟩, l1, w1, g1⟩, h7⟩ := h
  have hl : lsz (f :: r) = lsz r + f.L.length := rfl
  have hvz : vsz (f :: r) = vsz r + vln f.W := rfl
  have hts : tsz (f :: r) = tsz r + mln f.W := rfl
  have h5x : vS (vv 5 (nI p)) = 5 := vv_hi _ _
  have hvx : vln (vv 5 (nI p) :: f.W) = vln f.W := by show (if vS (vv 5 (nI p)) = 5 then 0 else 1) + vln f.W = _; rw [if_pos h5x, Nat.zero_add]
  have hmx : mln (vv 5 (nI p) :: f.W) = 1 + mln f.W := by show (if vS (vv 5 (nI p)) = 5 then 1 else 0) + mln f.W = _; rw [if_pos h5x]
  have hz2 : vsz (f.sW (vv 5 (nI p) :: f.W) :: r) = vsz (f :: r) := by show vsz r + vln (vv 5 (nI p) :: f.W) = _; omega
  have hs2 : tsz (f.sW (vv 5 (nI p) :: f.W) :: r) = tsz (f :: r) + 1 := by show tsz r + mln (vv 5 (nI p) :: f.W) = _; omega
  obtain ⟨m', em⟩ : ∃ m', m' = mSA (mSA (mSA (mSA m 124 (1500 * t + tsz (f :: r)) (nI (r.length + 1))) 125 (1500 * t + tsz (f :: r)) (nI (vsz (f :: r)))) 126 (1500 * t + tsz (f :: r)) (nI (cb f.u) + nI p)) 123 t (nI (tsz (f :: r) + 1)) := ⟨_, rfl⟩
  have o1 : OPM [123, 124, 125, 126] t m m' := by
    rw [em]
    exact ((((opm_t (m := m) (g := 124) (by decide) (by decide) hb).mo (by simp)).tr ((opm_t (g := 125) (by decide) (by decide) hb).mo (by simp))).tr ((opm_t (g := 126) (by decide) (by decide) hb).mo (by simp))).tr ((opm_1 (g := 123) (by decide)).mo (by simp))
  have o : ∀ g, g ≠ 123 → g ≠ 124 → g ≠ 125 → g ≠ 126 → ∀ i, mA m' g i = mA m g i := fun g q1 q2 q3 q4 i => md_frA o1.1 (by simp; omega) i
  have e4 : ∀ i, mA m' 124 i = if i = 1500 * t + tsz (f :: r) then nI (r.length + 1) else mA m 124 i := fun i => by
    rw [em, mA_SAo (by decide), mA_SAo (by decide), mA_SAo (by decide), mA_SA, if_pos rfl]
  have e5 : ∀ i, mA m' 125 i = if i = 1500 * t + tsz (f :: r) then nI (vsz (f :: r)) else mA m 125 i := fun i => by
    rw [em, mA_SAo (by decide), mA_SAo (by decide), mA_SA, if_pos rfl, mA_SAo (by decide)]
  have e6 : ∀ i, mA m' 126 i = if i = 1500 * t + tsz (f :: r) then nI (cb f.u) + nI p else mA m 126 i := fun i => by
    rw [em, mA_SAo (by decide), mA_SA, if_pos rfl, mA_SAo (by decide), mA_SAo (by decide)]
  have es : ∀ g j, 124 ≤ g → g ≤ 126 → j < tsz (f :: r) → mA m' g (1500 * t + j) = mA m g (1500 * t + j) := fun g j q q2 hj => by
    have : g = 124 ∨ g = 125 ∨ g = 126 := by omega
    rcases this with q | q | q
    · rw [q, e4, if_neg (by omega)]
    · rw [q, e5, if_neg (by omega)]
    · rw [q, e6, if_neg (by omega)]
  refine ⟨m', em, ⟨⟨?_, h2, ?_, ?_, ⟨by rw [hl] at h5'; exact h5'.1, by omega, by omega⟩, ⟨?_, ?_, ?_, ?_, ?_⟩, fun i hi => ?_, ⟨?_, ?_⟩, ?_⟩, ?_⟩, o1⟩
  · rw [o 111 (by decide) (by decide) (by decide) (by decide)]; exact h1
  · rw [o 117 (by decide) (by decide) (by decide) (by decide)]; exact h3
  · rw [hs2, em, mA_SAe]
  · rw [o 112 (by decide) (by decide) (by decide) (by decide)]; exact a1
  · rw [o 113 (by decide) (by decide) (by decide) (by decide)]; exact a2
  · rw [o 114 (by decide) (by decide) (by decide) (by decide)]; exact a3
  · rw [o 115 (by decide) (by decide) (by decide) (by decide)]; exact a4
  · rw [o 116 (by decide) (by decide) (by decide) (by decide)]; exact a5
  · rw [o 118 (by decide) (by decide) (by decide) (by decide), o 119 (by decide) (by decide) (by decide) (by decide)]; exact l1 i hi
  · rw [if_pos h5x, show tsz r + mln f.W = tsz (f :: r) from rfl, e4, if_pos rfl, e5, if_pos rfl, e6, if_pos rfl, vv_lo]
    exact ⟨rfl, rfl, rfl⟩
  · exact w1.of (fun g j q _ hj => o g (by omega) (by omega) (by omega) (by omega) _) (fun g j q1 q2 _ hj => es g j q1 q2 (by omega))
  · exact g1.of (fun g k q1 q2 _ => o g (by omega) (by omega) (by omega) (by omega) _) (fun g j q _ => o g (by omega) (by omega) (by omega) (by omega) _) (fun g j q hj => o g (by omega) (by omega) (by omega) (by omega) _) (fun g j q1 q2 hj => es g j q1 q2 (by omega))
  · rw [hz2, o 120 (by decide) (by decide) (by decide) (by decide)]; exact h7
theorem i_try {n mx d Z K st t : Nat} {C : Nat × Nat} {c c1 : cd_S} {b : cd_B} {m m1 : md_S} {D : PD} {h : HV} {Ls : List (List Int32)} {Fs : Nat → List FR} {f : FR} {r : List FR} {s : List SH} {e : EN} (hC : BC C) (hr : RR n mx d Z C c b m c1 m1 D h Ls K st t Fs (f :: r)) (hA : AT c m m1 D h d t f r s e 19) : GOs n mx d Z C c b m c1 m1 D h Ls K st t Fs (f :: r) := by
  obtain ⟨t1, t2, t3, t4, t5, ⟨t6, t7⟩, t8, t9, t10, ⟨t11, t12, t13, t14⟩, ⟨l1, l2, l3, l4, l5⟩⟩ := id hA
  obtain ⟨⟨hG, ⟨a1, a2, -⟩, -⟩, hB, hTC, hTM, -⟩ := id hr
  have ho : opd (D.lo f.u) (D.P f.u) e = D.P f.u e.2.1 := opd_j (Or.inr (Or.inr t6))
  obtain ⟨e', x2⟩ := t1.next t5.1 (by rw [t6]; decide) (by rw [t6]; decide)
  rw [eb_ql t6 t7] at x2
  have hst : (stp m1 (D.Λ f.u) (s, false) e).1 = some e.2.1 :: s := by
    unfold stp
    rw [if_neg (by rw [t6]; decide), if_neg (by rw [t6]; decide), if_neg (by rw [t6]; decide), if_pos (show e.1 = 19 from t6)]
  rw [hst] at x2
  obtain ⟨c2, g1, g2, g3, g4⟩ := hTC.step (n := n) (j := nO 19) hB
  obtain ⟨c3, b3, p1, p2, p3, p4, p5⟩ := g3.push (n := n) (v := vv 5 (nI (D.P f.u e.2.1))) hC g2 t12 (by show sz r + f.d + f.L.length + f.W.length < 32768; have : sz (f :: r) = sz r + f.d + f.L.length + f.W.length := rfl; omega)
  obtain ⟨w0, f1, f2, -⟩ := m_fetch (n := n) a2 t12 hTM t5 t10 t1 t6 t7 t9
  obtain ⟨m2, u1, u2, u3, u4⟩ := hTM.step t12 (j := 3)
  have hme2 : mI m2 127 = nI t := by rw [md_frI u4.1 (by decide)]; exact a2
  obtain ⟨m3, v1, v2, v3⟩ := u3.mark (p := D.P f.u e.2.1) t12 (by have e1 : tsz (f.sp (f.p + 3) :: r) = tsz (f :: r) := rfl; omega)
  obtain ⟨-, k2, -⟩ := u3.pl t12
  refine GOs.mk hr hA (f' := (f.sp (f.p + 3)).sW (vv 5 (nI (D.P f.u e.2.1)) :: f.W)) (c' := c3) (b' := b3) (m' := m3) (s' := some e.2.1 :: s) (e' := e') ?_ p3 ?_ p2 p4 v2 ((g4.mo (by decide)).tr (p5.mo (by simp))) ((u4.mo (by decide)).tr (v3.mo (by decide))) ⟨t3.1, t3.2.1, t3.2.2⟩ x2 ⟨rfl, t2⟩ rfl (by show f.p < f.p + 3; omega)
  · rw [c_fetch hB hTC t11 t5 t1 t6 t7 t9]
    refine c_ck ((j69_19 n t c b _ _ _ _).trans ?_) p3.1 p3.2
    rw [g1, bs_some]
    dsimp only
    rw [if_neg (by decide), ho, c_vv, bs_some]
    dsimp only
    rw [p1, bs_some]
    exact c_ck rfl (Nat.le_refl _) (Nat.le_refl _)
  · refine f1.trans ((ms_19 n m _ _ _).trans ?_)
    unfold f_X12_stepTry
    have e1 : tsz (f.sp (f.p + 3) :: r) = tsz (f :: r) := rfl
    have e2 : vsz (f.sp (f.p + 3) :: r) = vsz (f :: r) := rfl
    have h123 : mA m2 123 t = nI (tsz (f :: r)) := u3.1.2.2.2.1
    have h120 : mA m2 120 t = nI (vsz (f :: r)) := u3.2
    have h111 : mA m2 111 t = nI (r.length + 1) := u3.1.1
    have h76 : mA m2 76 (2 * f.u) = nI (D.cb f.u) := by rw [md_frA u4.1 (by decide)]; exact t5.2.2.2.1.1
    have k2' : mldA m2 112 (nI (60 * t + r.length)) = some (nI f.u) := k2
    rw [m_ld112 (by omega)] at k2'
    have k3 := Option.some.inj k2'
    rw [u1, bs_some, show nI (D.cb f.u + f.p) + 3 = nI (D.cb f.u + f.p) + nI 3 from rfl, u2, bs_some, hme2, m_ld123 t12, bs_some, m_ld111 t12, bs_some, h123, h111, show (1500 : Int32) = nI 1500 from rfl, nI_mul, nI_add, m_st124 (by omega), bs_some, mI_SA, hme2, m_ld120 t12, bs_some, mA_SAo (by decide), h120, m_st125 (by omega), bs_some, m_ld112 (by omega), bs_some, mA_SAo (by decide), mA_SAo (by decide), k3, show (2 : Int32) = nI 2 from rfl, nI_mul, m_ld76 (by omega), bs_some, mA_SAo (by decide), mA_SAo (by decide), h76, f2 (by decide), ho, m_st126 (by omega), bs_some, mI_SA, mI_SA, mI_SA, hme2, m_ld123 t12, bs_some, mA_SAo (by decide), mA_SAo (by decide), mA_SAo (by decide), h123, nI_1, m_st123 t12, bs_some, bs_some, v1]
    rfl
theorem i_tried {n mx d Z K st t : Nat} {C : Nat × Nat} {c c1 : cd_S} {b : cd_B} {m m1 : md_S} {D : PD} {h : HV} {Ls : List (List Int32)} {Fs : Nat → List FR} {f : FR} {r : List FR} {s : List SH} {e : EN} (hC : BC C) (hr : RR n mx d Z C c b m c1 m1 D h Ls K st t Fs (f :: r)) (hA : AT c m m1 D h d t f r s e 20) : GOs n mx d Z C c b m c1 m1 D h Ls K st t Fs (f :: r) := by
  obtain ⟨t1, t2, t3, t4, t5, ⟨t6, t7⟩, t8, t9, t10, ⟨t11, t12, t13, t14⟩, ⟨l1, l2, l3, l4, l5⟩⟩ := id hA
  obtain ⟨⟨hG, ⟨a1, a2, -⟩, -⟩, hB, hTC, hTM, -⟩ := id hr
  obtain ⟨e', x2⟩ := t1.next t5.1 (by rw [t6]; decide) (by rw [t6]; decide)
  rw [eb_ql t6 t7] at x2
  obtain ⟨l, r0, hs⟩ := (t1.ok t5.1).2.2.2.2.2.2.1 t6
  have hs : s = none :: some l :: r0 := hs
  have hst : (stp m1 (D.Λ f.u) (s, false) e).1 = none :: r0 := by
    unfold stp
    rw [if_neg (by rw [t6]; decide), if_neg (by rw [t6]; decide), if_neg (by rw [t6]; decide), if_neg (by rw [t6]; decide), if_pos (show e.1 = 20 from t6), hs]
    rfl
  rw [hst] at x2
  rw [hs] at t2
  obtain ⟨v, V0, w1, w2, w3⟩ := WT.n t2
  obtain ⟨V, w4, w5⟩ := WT.m w3
  rw [w4] at w1
  have h5 : vS (vv 5 (nI (D.P f.u l))) = 5 := vv_hi _ _
  have hzz : sz (f :: r) = sz r + f.d + f.L.length + f.W.length := rfl
  have hlen : f.W.length = V.length + 2 := by rw [w1]; rfl
  obtain ⟨c2, g1, g2, g3, g4⟩ := hTC.step (n := n) (j := nO 20) hB
  obtain ⟨c3, p1, p2, p3, p4⟩ := g3.pop (n := n) g2 t12 w1
  obtain ⟨c4, y1, y2, y3, y4⟩ := p3.pop (n := n) (v := vv 5 (nI (D.P f.u l))) (V := V) p2 t12 rfl
  obtain ⟨c5, b5, z1, z2, z3, z4, z5⟩ := y3.push (n := n) (v := v) hC y2 t12 (by show sz r + f.d + f.L.length + V.length < 32768; omega)
  obtain ⟨w0, f1, f2, -⟩ := m_fetch (n := n) a2 t12 hTM t5 t10 t1 t6 t7 t9
  obtain ⟨m2, u1, u2, u3, u4⟩ := hTM.step t12 (j := 1)
  have hme2 : mI m2 127 = nI t := by rw [md_frI u4.1 (by decide)]; exact a2
  have hm1 : mln f.W = 1 + mln V := by rw [w1]; show (if vS v = 5 then 1 else 0) + ((if vS (vv 5 (nI (D.P f.u l))) = 5 then 1 else 0) + mln V) = _; rw [if_neg w2.n5, if_pos h5]; omega
  have hm2 : mln (v :: V) = mln V := by show (if vS v = 5 then 1 else 0) + mln V = _; rw [if_neg w2.n5, Nat.zero_add]
  have hv1 : vln f.W = 1 + vln V := by rw [w1]; show (if vS v = 5 then 0 else 1) + ((if vS (vv 5 (nI (D.P f.u l))) = 5 then 0 else 1) + vln V) = _; rw [if_neg w2.n5, if_pos h5, Nat.zero_add]
  have hv2 : vln (v :: V) = 1 + vln V := by show (if vS v = 5 then 0 else 1) + vln V = _; rw [if_neg w2.n5]
  have htz : tsz (f :: r) = tsz r + mln f.W := rfl
  have hvz : vsz (f :: r) = vsz r + vln f.W := rfl
  obtain ⟨m3, em⟩ : ∃ m3, m3 = mSA m2 123 t (nI (tsz (f :: r) - 1)) := ⟨_, rfl⟩
  have o3 : OPM [123] t m2 m3 := by rw [em]; exact opm_1 (by decide)
  have o : ∀ g, g ≠ 123 → ∀ i, mA m3 g i = mA m2 g i := fun g q i => md_frA o3.1 (by simp; omega) i
  have hTM3 : TM m3 t h.1 D.cb ((f.sp (f.p + 1)).sW (v :: V) :: r) := by
    obtain ⟨⟨h1, h2, h3, h4, h5', ⟨b1, b2, b3, b4, b5⟩, k1, k2, k3⟩, k4⟩ := u3
    have k2' : MWk m2 t h.1 (r.length + 1) (D.cb f.u) (vsz r) (tsz r) f.W := k2
    rw [w1] at k2'
    refine ⟨⟨?_, h2, ?_, ?_, ⟨h5'.1, ?_, ?_⟩, ⟨?_, ?_, ?_, ?_, ?_⟩, fun i hi => ?_, ⟨?_, ?_⟩, ?_⟩, ?_⟩
    · rw [o 111 (by decide)]; exact h1
    · rw [o 117 (by decide)]; exact h3
    · rw [em, mA_SAe]
      show nI (tsz (f :: r) - 1) = nI (tsz r + mln (v :: V))
      rw [hm2]; congr 1; omega
    · show vsz r + vln (v :: V) ≤ 9000; omega
    · show tsz r + mln (v :: V) ≤ 1500; omega
    · rw [o 112 (by decide)]; exact b1
    · rw [o 113 (by decide)]; exact b2
    · rw [o 114 (by decide)]; exact b3
    · rw [o 115 (by decide)]; exact b4
    · rw [o 116 (by decide)]; exact b5
    · rw [o 118 (by decide), o 119 (by decide)]; exact k1 i hi
    · have q1 := k2'.1
      rw [if_neg w2.n5] at q1
      have q2 : vln (vv 5 (nI (D.P f.u l)) :: V) = vln V := by show (if vS (vv 5 (nI (D.P f.u l))) = 5 then 0 else 1) + vln V = _; rw [if_pos h5, Nat.zero_add]
      rw [q2] at q1
      rw [if_neg w2.n5, o 121 (by decide), o 122 (by decide)]
      exact q1
    · exact k2'.2.2.of (fun g j q _ hj => o g (by omega) _) (fun g j q1 q2 _ hj => o g (by omega) _)
    · exact k3.of (fun g k q1 q2 _ => o g (by omega) _) (fun g j q _ => o g (by omega) _) (fun g j q hj => o g (by omega) _) (fun g j q1 q2 hj => o g (by omega) _)
    · rw [o 120 (by decide), k4]
      show nI (vsz (f :: r)) = nI (vsz r + vln (v :: V))
      congr 1; omega
  refine GOs.mk hr hA (f' := (f.sp (f.p + 1)).sW (v :: V)) (c' := c5) (b' := b5) (m' := m3) (s' := none :: r0) (e' := e') ?_ z3 ?_ z2 z4 hTM3 ((((g4.mo (by decide)).tr (p4.mo (by simp))).tr (y4.mo (by simp))).tr (z5.mo (by simp))) ((u4.mo (by decide)).tr (o3.mo (by decide))) ⟨t3.1, t3.2.1, t3.2.2⟩ x2 ⟨w2, w5⟩ rfl (by show f.p < f.p + 1; omega)
  · rw [c_fetch hB hTC t11 t5 t1 t6 t7 t9]
    refine c_ck ((j69_20 n t c b _ _ _ _).trans ?_) z3.1 z3.2
    rw [g1, bs_some]
    unfold f_X1_closeTry
    dsimp only
    rw [p1, bs_some]
    dsimp only
    rw [y1, bs_some]
    dsimp only
    rw [z1, bs_some]
    rw [c_ck (b := b) (c_ck (fb := fun (q : (Int32 × cd_S × cd_B)) => q.2.2) (b := b5) rfl (Nat.le_refl _) (Nat.le_refl _)) z3.1 z3.2, bs_some]
    exact c_ck rfl (Nat.le_refl _) (Nat.le_refl _)
  · refine f1.trans ((ms_20 n m _ _ _).trans ?_)
    have h123 : mA m2 123 t = nI (tsz (f :: r)) := u3.1.2.2.2.1
    rw [u1, bs_some, show nI (D.cb f.u + f.p) + 1 = nI (D.cb f.u + f.p) + nI 1 from rfl, u2, bs_some, hme2, m_ld123 t12, bs_some, h123, show (1 : Int32) = nI 1 from rfl, nI_sub (by omega), m_st123 t12, bs_some, em]
