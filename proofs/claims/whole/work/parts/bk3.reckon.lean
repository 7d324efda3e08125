/-! instructions that may fail: if, reckoning -/
theorem i_zero {n mx d Z K st t : Nat} {C : Nat × Nat} {c c1 : cd_S} {b : cd_B} {m m1 : md_S} {D : PD} {h : HV} {Ls : List (List Int32)} {Fs : Nat → List FR} {f : FR} {r : List FR} {s : List SH} {e : EN} (hn : 40000 ≤ n) (hC : BC C) (hZ : Z + 1 < 2 ^ 31) (hr : RR n mx d Z C c b m c1 m1 D h Ls K st t Fs (f :: r)) (hA : AT c m m1 D h d t f r s e 18) : NXT n mx d Z C c b m c1 m1 D h K st t Fs (f :: r) := by
  obtain ⟨t1, t2, t3, t4, t5, ⟨t6, t7⟩, t8, t9, t10, ⟨t11, t12, t13, t14⟩, ⟨l1, l2, l3, l4, l5⟩⟩ := id hA
  obtain ⟨⟨hG, ⟨a1, a2, -⟩, -⟩, hB, hTC, hTM, -⟩ := id hr
  have ho : opd (D.lo f.u) (D.P f.u) e = D.P f.u e.2.1 := opd_j (Or.inr (Or.inl t6))
  have hok := (t1.ok t5.1).2
  obtain ⟨r0, hs⟩ := hok.2.2.2.2.2.2 (by rw [t6]; decide) (by rw [t6]; decide)
  have hs : s = none :: r0 := by
    have h1 : s = List.replicate (pops m1 e) none ++ r0 := hs
    rw [show pops m1 e = 1 by unfold pops; rw [t6]; rfl] at h1
    exact h1
  have hΛ : D.Λ f.u e.2.1 = r0 := by
    have h1 : D.Λ f.u e.2.1 = s.drop 1 := hok.2.2.2.1 t6
    rw [h1, hs]; rfl
  obtain ⟨e1, x1⟩ := t1.jump t5.1 (Or.inr (Or.inl t6))
  rw [hΛ] at x1
  have hah := (t5.2.2.2.2.2.2.1 f.p s e t1).2 (Or.inr (Or.inl t6))
  rw [eb_ql t6 t7] at hah
  obtain ⟨e2, x2⟩ := t1.next t5.1 (by rw [t6]; decide) (by rw [t6]; decide)
  rw [eb_ql t6 t7] at x2
  have hst : (stp m1 (D.Λ f.u) (s, false) e).1 = r0 := by
    unfold stp
    rw [if_neg (by rw [t6]; decide), if_neg (by rw [t6]; decide), if_pos (show e.1 = 18 from t6), hs]
    rfl
  rw [hst] at x2
  rw [hs] at t2
  obtain ⟨v, V, w1, w2, w3⟩ := WT.n t2
  obtain ⟨c2, g1, g2, g3, g4⟩ := hTC.step (n := n) (j := nO 18) hB
  obtain ⟨c3, p1, p2, p3, p4⟩ := g3.pop (n := n) g2 t12 w1
  obtain ⟨w0, f1, f2, -⟩ := m_fetch (n := n) a2 t12 hTM t5 t10 t1 t6 t7 t9
  obtain ⟨m2, u1, u2, u3, u4⟩ := hTM.step t12 (j := 3)
  have hme2 : mI m2 127 = nI t := by rw [md_frI u4.1 (by decide)]; exact a2
  obtain ⟨m3, v1, v2, v3, v4⟩ := u3.pop (n := n) hme2 t12 w1 w2.n5
  have oc : OPC lc0 t c c3 := (g4.mo (by decide)).tr (p4.mo (by simp))
  have om : OPM lm0 t m m3 := (u4.mo (by decide)).tr (v4.mo (by decide))
  have hfe := c_fetch (n := n) hB hTC t11 t5 t1 t6 t7 t9
  by_cases q : vS v = 0
  · have hv0 : mv h.1 v = v.toInt32 := mv_n4 (by rw [q]; decide)
    by_cases q0 : v.toInt32 = 0
    · obtain ⟨c4, k1, k2, k3, k4⟩ := p3.go (n := n) (p := D.P f.u e.2.1) p2
      obtain ⟨z1, z2⟩ := v3.go (p := D.P f.u e.2.1)
      obtain ⟨-, y2, y3, -⟩ := v3.pl t12
      refine (GOs.mk hr hA (f' := (f.sp (D.P f.u e.2.1)).sW V) (c' := c4) (b' := b) (m' := _) (s' := r0) (e' := e1) ?_ (ble.refl b) ?_ k2 k3 z1 (oc.tr (k4.mo (by decide))) (om.tr (z2.mo (by decide))) ⟨t3.1, t3.2.1, t3.2.2⟩ x1 w3 rfl (by show f.p < D.P f.u e.2.1; omega)).nxt
      · rw [hfe]
        refine c_ck ((j69_18 n t c b _ _ _ _).trans ?_) (Nat.le_refl _) (Nat.le_refl _)
        rw [g1, bs_some]
        unfold f_X1_jumpIfZero
        dsimp only
        rw [p1, bs_some]
        dsimp only
        rw [c_vS, bs_some]
        dsimp only
        rw [if_pos q, if_pos q0, if_neg (by decide), ho, k1, bs_some, bs_some]
      · refine f1.trans ((ms_18 n m _ _ _).trans ?_)
        unfold f_X12_stepIf
        rw [u1, bs_some, show nI (D.cb f.u + f.p) + 3 = nI (D.cb f.u + f.p) + nI 3 from rfl, u2, bs_some, v1, bs_some]
        dsimp only
        rw [if_pos q, v2, hv0, if_pos q0, y2, bs_some, show (2 : Int32) = nI 2 from rfl, nI_mul]
        have h76 : mldA m3 76 (nI (2 * f.u)) = some (nI (D.cb f.u)) := by rw [m_ld76 (by omega), md_frA v4.1 (by decide), md_frA u4.1 (by decide), t5.2.2.2.1.1]
        have h76' : mldA m3 76 (nI (2 * ((f.sp (f.p + 3)).sW V).u)) = some (nI (D.cb f.u)) := h76
        rw [h76', bs_some, f2 (by decide), ho, nI_add, y3, bs_some, bs_some]
        rfl
    · refine (GOs.mk hr hA (f' := (f.sp (f.p + 3)).sW V) (c' := c3) (b' := b) (m' := m3) (s' := r0) (e' := e2) ?_ (ble.refl b) ?_ p2 p3 v3 oc om ⟨t3.1, t3.2.1, t3.2.2⟩ x2 w3 rfl (by show f.p < f.p + 3; omega)).nxt
      · rw [hfe]
        refine c_ck ((j69_18 n t c b _ _ _ _).trans ?_) (Nat.le_refl _) (Nat.le_refl _)
        rw [g1, bs_some]
        unfold f_X1_jumpIfZero
        dsimp only
        rw [p1, bs_some]
        dsimp only
        rw [c_vS, bs_some]
        dsimp only
        rw [if_pos q, if_neg q0, bs_some]
      · refine f1.trans ((ms_18 n m _ _ _).trans ?_)
        unfold f_X12_stepIf
        rw [u1, bs_some, show nI (D.cb f.u + f.p) + 3 = nI (D.cb f.u + f.p) + nI 3 from rfl, u2, bs_some, v1, bs_some]
        dsimp only
        rw [if_pos q, v2, hv0, if_neg q0, bs_some]
  · obtain ⟨k1, k2, k3, k4, k5⟩ := p3.fail (n := n) (x := 5) p2
    have hzz : sz (f :: r) = sz r + f.d + f.L.length + f.W.length := rfl
    have hlen : f.W.length = V.length + 1 := by rw [w1]; rfl
    refine fail_nxt (sY := [none]) (s2 := r0) (X0 := []) (W' := V) (p1 := f.p + 3) (c2 := cSI c3 237 t 5) (b2 := b) (m2 := m3) hn hC hZ hr hA ?_ (ble.refl b) k2 k3 (by simp) k5 (oc.tr (k4.mo (by decide))) (fun m' hm' => ?_) v3.1 om hs w3 (by show sz r + f.d + f.L.length + V.length < 32768; omega)
    · rw [hfe]
      refine c_ck ((j69_18 n t c b _ _ _ _).trans ?_) (Nat.le_refl _) (Nat.le_refl _)
      rw [g1, bs_some]
      unfold f_X1_jumpIfZero
      dsimp only
      rw [p1, bs_some]
      dsimp only
      rw [c_vS, bs_some]
      dsimp only
      rw [if_neg q, k1, bs_some, bs_some]
    · refine f1.trans ((ms_18 n m _ _ _).trans ?_)
      unfold f_X12_stepIf
      rw [u1, bs_some, show nI (D.cb f.u + f.p) + 3 = nI (D.cb f.u + f.p) + nI 3 from rfl, u2, bs_some, v1, bs_some]
      dsimp only
      rw [if_neg q, hm', bs_some, bs_some]
/-- two values are taken, and one is pushed, or it fails with 5: what both do behind the fetch -/
theorem two_nxt {n mx d Z K st t k : Nat} {C : Nat × Nat} {c c1 : cd_S} {b : cd_B} {m m1 : md_S} {D : PD} {h : HV} {Ls : List (List Int32)} {Fs : Nat → List FR} {f : FR} {r : List FR} {s : List SH} {e : EN} (hn : 40000 ≤ n) (hC : BC C) (hZ : Z + 1 < 2 ^ 31) (hr : RR n mx d Z C c b m c1 m1 D h Ls K st t Fs (f :: r)) (hA : AT c m m1 D h d t f r s e k) (hk : k < 28) (hj : k ≠ 17 ∧ k ≠ 18 ∧ k ≠ 19 ∧ k ≠ 20) (hp2 : pops m1 e = 2) (hps : psh e = [none]) (hk0 : nO k = 0)
    (J : ∀ v w : Int64, VOK h v → VOK h w → (∃ y, (∀ c2 c3 c4 c5 b5, f_X7_goTo n c t (nI f.p + 1 + 2 * nI (nO k)) = some (0, c2) → f_X6_pop n c2 (9 + 1 * t) = some (v, c3) → f_X6_pop n c3 (9 + 1 * t) = some (w, c4) → f_X1_push n c4 b t (vv 0 y) = some (0, c5, b5) → ble b5 b → f_X1_step_J69 n t c b (18 + 3 * f.u) (nI f.p) (nI k) (nI (nO k)) 0 = some (0, c5, b5)) ∧ ∀ x m2 m3 m4 m5, mstA m 113 (nI (60 * t + r.length)) (nI (D.cb f.u + f.p) + nI 1) = some m2 → f_X12_pop n m2 = some (vS v, m3) → mI m3 135 = mv h.1 v → f_X12_pop n m3 = some (vS w, m4) → mI m4 135 = mv h.1 w → f_X12_push n m4 0 y = some (0, m5) → MSt n m (nI (60 * t + r.length)) (nI (D.cb f.u + f.p)) (nI k) x = some (0, m5)) ∨
      ((∀ c2 c3 c4, f_X7_goTo n c t (nI f.p + 1 + 2 * nI (nO k)) = some (0, c2) → f_X6_pop n c2 (9 + 1 * t) = some (v, c3) → f_X6_pop n c3 (9 + 1 * t) = some (w, c4) → f_X1_step_J69 n t c b (18 + 3 * f.u) (nI f.p) (nI k) (nI (nO k)) 0 = some (2, cSI c4 237 t 5, b)) ∧ ∀ x m2 m3 m4 m5, mstA m 113 (nI (60 * t + r.length)) (nI (D.cb f.u + f.p) + nI 1) = some m2 → f_X12_pop n m2 = some (vS v, m3) → mI m3 135 = mv h.1 v → f_X12_pop n m3 = some (vS w, m4) → mI m4 135 = mv h.1 w → f_X12_failure n m4 5 = some (0, m5) → MSt n m (nI (60 * t + r.length)) (nI (D.cb f.u + f.p)) (nI k) x = some (0, m5))) : NXT n mx d Z C c b m c1 m1 D h K st t Fs (f :: r) := by
  obtain ⟨t1, t2, t3, t4, t5, ⟨t6, t7⟩, t8, t9, t10, ⟨t11, t12, t13, t14⟩, ⟨l1, l2, l3, l4, l5⟩⟩ := id hA
  obtain ⟨⟨hG, ⟨a1, a2, -⟩, -⟩, hB, hTC, hTM, -⟩ := id hr
  obtain ⟨r0, e', x1, x2⟩ := t1.nx t5.1 t6 hk hj.1 hj.2.1 hj.2.2.1 hj.2.2.2
  rw [hp2] at x1
  have x1 : s = none :: none :: r0 := x1
  rw [hps] at x2
  rw [x1] at t2
  obtain ⟨v, V1, w1, w2, w3⟩ := WT.n t2
  obtain ⟨w, V, w4, w5, w6⟩ := WT.n w3
  rw [w4] at w1
  have hzz : sz (f :: r) = sz r + f.d + f.L.length + f.W.length := rfl
  have hvz : vsz (f :: r) = vsz r + vln f.W := rfl
  have hlen : f.W.length = V.length + 2 := by rw [w1]; rfl
  have hvln : vln V ≤ vln f.W := by rw [w1]; show vln V ≤ (if vS v = 5 then 0 else 1) + ((if vS w = 5 then 0 else 1) + vln V); omega
  obtain ⟨c2, g1, g2, g3, g4⟩ := hTC.step (n := n) (j := nO k) hB
  obtain ⟨c3, p1, p2, p3, p4⟩ := g3.pop (n := n) g2 t12 w1
  obtain ⟨c4, y1, y2, y3, y4⟩ := p3.pop (n := n) (v := w) (V := V) p2 t12 rfl
  obtain ⟨w0, f1, f2, -⟩ := m_fetch (n := n) a2 t12 hTM t5 t10 t1 t6 t7 t9
  obtain ⟨m2, u1, u2, u3, u4⟩ := hTM.step t12 (j := 1)
  have hme2 : mI m2 127 = nI t := by rw [md_frI u4.1 (by decide)]; exact a2
  obtain ⟨m3, v1, v2, v3, v4⟩ := u3.pop (n := n) hme2 t12 w1 w2.n5
  have hme3 : mI m3 127 = nI t := by rw [md_frI v4.1 (by decide)]; exact hme2
  obtain ⟨m4, z1, z2, z3, z4⟩ := v3.pop (n := n) (x := w) (V := V) hme3 t12 rfl w5.n5
  have hme4 : mI m4 127 = nI t := by rw [md_frI z4.1 (by decide)]; exact hme3
  have oc : OPC lc0 t c c4 := ((g4.mo (by decide)).tr (p4.mo (by simp))).tr (y4.mo (by simp))
  have om : OPM lm0 t m m4 := ((u4.mo (by decide)).tr (v4.mo (by decide))).tr (z4.mo (by decide))
  have hfe := c_fetch (n := n) hB hTC t11 t5 t1 t6 t7 t9
  rw [if_pos hk0] at hfe
  have hp1 : f.p + (1 + 2 * nO k) = f.p + 1 := by rw [hk0]
  rcases J v w w2 w5 with ⟨y, jc, jm⟩ | ⟨jc, jm⟩
  · obtain ⟨c5, b5, k1, k2, k3, k4, k5⟩ := y3.push (n := n) (v := vv 0 y) hC y2 t12 (by show sz r + f.d + f.L.length + V.length < 32768; omega)
    obtain ⟨m5, j1, j2, j3⟩ := z3.push (n := n) (x := vv 0 y) (s := 0) (v := y) hme4 t12 (vv_hi _ _).symm (by decide) (by rw [mv_n4 (by rw [vv_hi]; decide), vv_lo]) (by show vsz r + vln V < 9000; omega)
    refine (GOs.mk hr hA (f' := (f.sp (f.p + 1)).sW (vv 0 y :: V)) (c' := c5) (b' := b5) (m' := m5) (s' := none :: r0) (e' := e') ?_ k3 ?_ k2 (by rw [← hp1]; exact k4) j2 (oc.tr (k5.mo (by simp))) (om.tr (j3.mo (by decide))) ⟨t3.1, t3.2.1, t3.2.2⟩ (by rw [hp1] at x2; exact x2) ⟨VOK.int h y, w6⟩ rfl (by show f.p < f.p + 1; omega)).nxt
    · rw [hfe]
      exact c_ck (jc c2 c3 c4 c5 b5 g1 p1 y1 k1 k3) k3.1 k3.2
    · exact f1.trans (jm w0 m2 m3 m4 m5 u2 v1 v2 z1 z2 j1)
  · obtain ⟨k1, k2, k3, k4, k5⟩ := y3.fail (n := n) (x := 5) y2
    refine fail_nxt (sY := [none, none]) (s2 := r0) (X0 := []) (W' := V) (p1 := f.p + 1) (c2 := cSI c4 237 t 5) (b2 := b) (m2 := m4) hn hC hZ hr hA ?_ (ble.refl b) k2 (by rw [← hp1]; exact k3) (by simp) k5 (oc.tr (k4.mo (by decide))) (fun m' hm' => ?_) z3.1 om x1 w6 (by show sz r + f.d + f.L.length + V.length < 32768; omega)
    · rw [hfe]
      exact c_ck (jc c2 c3 c4 g1 p1 y1) (Nat.le_refl _) (Nat.le_refl _)
    · exact f1.trans (jm w0 m2 m3 m4 m' u2 v1 v2 z1 z2 hm')
