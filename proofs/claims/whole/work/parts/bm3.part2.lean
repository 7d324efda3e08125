/-! a part is called: both -/
theorem rev_get {X : List Int64} {i : Nat} (h : i < X.reverse.length) : X.reverse[i] = X[X.length - 1 - i]'(by rw [List.length_reverse] at h; omega) := List.getElem_reverse h
theorem i_part {n mx d Z K st t : Nat} {C : Nat × Nat} {c c1 : cd_S} {b : cd_B} {m m1 : md_S} {D : PD} {h : HV} {Ls : List (List Int32)} {Fs : Nat → List FR} {f : FR} {r : List FR} {s : List SH} {e : EN} (hn : 40000 ≤ n) (hC : BC C) (hZ : Z + 1 < 2 ^ 31) (hr : RR n mx d Z C c b m c1 m1 D h Ls K st t Fs (f :: r)) (hA : AT c m m1 D h d t f r s e 10) : NXT n mx d Z C c b m c1 m1 D h K st t Fs (f :: r) := by
  obtain ⟨t1, t2, t3, t4, t5, ⟨t6, t7⟩, t8, t9, t10, ⟨t11, t12, t13, t14⟩, ⟨l1, l2, l3, l4, l5⟩⟩ := id hA
  obtain ⟨⟨hG, ⟨a1, a2, a3, a4, -⟩, -⟩, hB, hTC, hTM, -⟩ := id hr
  obtain ⟨o, ai1, ai2⟩ := t8.2.2.2.2.2.2.2.1 (Or.inr t6)
  have hb35 := t13.1
  have ho : opd (D.lo f.u) (D.P f.u) e = o := by rw [opd_k t6 (by decide) (by decide) (by decide) (by decide) (by decide) (by decide), ai1, oN_nI (by omega)]
  obtain ⟨r0, e', x1, x2⟩ := t1.nx t5.1 t6 (by decide) (by decide) (by decide) (by decide) (by decide)
  obtain ⟨c2, g1, g2, g3, g4⟩ := hTC.step (n := n) (j := nO 10) hB
  obtain ⟨w0, f1, f2, -⟩ := m_fetch (n := n) a2 t12 hTM t5 t10 t1 t6 t7 t9
  obtain ⟨m2, u1, u2, u3, u4⟩ := hTM.step t12 (j := 3)
  have oc : OPC lc0 t c c2 := g4.mo (by decide)
  have om : OPM lm0 t m m2 := u4.mo (by decide)
  have hR2 := hr.1.op oc om
  obtain ⟨hG2, ⟨b1, b2, b3, b4, b5, b6, b7⟩, hO2⟩ := id hR2
  obtain ⟨⟨N, N1, N2, N3, N4⟩, -, ⟨s0, S1, S2, S3, S4⟩, N5, N6⟩ := hG2.1.un ai2
  rw [show psh e = [none] by unfold psh; rw [t6]; rfl] at x2
  have hSU := hG2.1.2.2.2.2.2 o ai2
  have hNL : N ≤ D.L o := by have := hSU.2.1.2; omega
  have hL210 := hSU.2.1.1
  have hzz : sz (f :: r) = sz r + f.d + f.L.length + f.W.length := rfl
  have hvz : vsz (f :: r) = vsz r + vln f.W := rfl
  have hfe := c_fetch (n := n) hB hTC t11 t5 t1 t6 t7 t9
  have hsz2 : cI c2 193 (9 + t) = nI (sz (f :: r)) := by
    have e1 : sz (f.sp (f.p + (1 + 2 * nO 10)) :: r) = sz (f :: r) := rfl
    rw [(g2.1 (9 + t) (by omega)).1, g3.2.2.1, e1]
  have hm120 : mA m2 120 t = nI (vsz (f :: r)) := u3.2
  have s4i : nI s0 = (4 : Int32) ↔ s0 = 4 := nI_eq (b := 4) (by omega) (by decide)
  have e0 : f_X12_step n m = Option.bind (Option.bind (f_X12_stepPart n m2 (nI o)) fun p1 => some ((0 : Int32), p1.2)) fun p1 => some ((0 : Int32), p1.2) := by
    have e1 : f_X12_step n m = Option.bind (f_X12_stepOther n m (nI (60 * t + r.length)) 10 w0 (nI (D.cb f.u + f.p))) fun p1 => some ((0 : Int32), p1.2) := f1.trans (ms_10 n m _ _ _)
    rw [e1, so_10, u1, bs_some, show nI (D.cb f.u + f.p) + 3 = nI (D.cb f.u + f.p) + nI 3 from rfl, u2, bs_some, f2 (by decide), ho]
  -- the locals
  have lcl : ∀ (m0 m3 : md_S) (g0 : FR) (xs : List Int64) (V : List Int64) (y : Nat), xs.length = N → g0.L = nones (D.L o) → TM m3 t h.1 D.cb (g0 :: ((f.sp (f.p + 3)).sW V) :: r) → mI m3 127 = nI t → (∀ g, g ∈ [39, 44, 96, 97, 99, 100, 121, 122] → ∀ i, mA m3 g i = mA m0 g i) → mA m0 44 o = nI N → y + N < 72000 → (∀ i (hi : i < xs.length), mA m0 121 (y + i) = vS xs[i] ∧ mA m0 122 (y + i) = mv h.1 xs[i]) → ∃ m4, f_X12_stepPart_L84 n (nI o) (nI y) n m3 0 = some (m4, nI N) ∧ TM m4 t h.1 D.cb (g0.sL (xs ++ nones (D.L o - xs.length)) :: ((f.sp (f.p + 3)).sW V) :: r) ∧ OPM [118, 119] t m3 m4 := fun m0 m3 g0 xs V y z1 z2 z3 z4 z5 z6 z7 z8 => by
    have e1 : g0.sL (xs.take 0 ++ nones (D.L o - 0)) = g0 := by
      rw [List.take_zero, List.nil_append, Nat.sub_zero, ← z2]; rfl
    obtain ⟨m4, k1, k2, k3⟩ := m_partL (n := n) (t := t) (u := o) (L := D.L o) (N := N) (y := y) (m0 := m3) (rw := h.1) (cb := D.cb) (g := g0) (R := ((f.sp (f.p + 3)).sW V) :: r) (xs := xs) t12 N6 z1 hNL (by omega) (by rw [z5 44 (by simp)]; exact z6) z7 (fun i hi => by rw [z5 121 (by simp), z5 122 (by simp)]; exact z8 i hi) N n 0 m3 (by omega) (by omega) (OPM.refl _ _ _) z4 (by rw [e1]; exact z3)
    exact ⟨m4, k1, by rw [z1]; exact k3, k2⟩
  by_cases q : s0 = 4
  · rw [show pops m1 e = N + 1 by unfold pops; rw [t6]; show (if mA m1 36 (oN e.2.1) = 4 then 1 else 0) + aN m1 44 (oN e.2.1) = N + 1; rw [ai1, oN_nI (by omega), N2, S2, if_pos (s4i.mpr q)]; omega] at x1
    have t2' := t2
    rw [x1] at t2'
    obtain ⟨X', V, w1', w2', w3', w4⟩ := t2'.pops
    obtain ⟨X, cv, eX⟩ : ∃ X cv, X' = X ++ [cv] := by
      rcases List.eq_nil_or_concat X' with z | ⟨X, cv, z⟩
      · rw [z] at w2'; exact absurd w2' (by simp)
      · exact ⟨X, cv, by rw [z, List.concat_eq_append]⟩
    have w2 : X.length = N := by rw [eX, List.length_append] at w2'; simpa using w2'
    have w1 : f.W = X ++ cv :: V := by rw [w1', eX, List.append_assoc]; rfl
    have w3 : ∀ v, v ∈ X → VOK h v := fun v hv => w3' v (by rw [eX]; simp [hv])
    have wc : VOK h cv := w3' cv (by rw [eX]; simp)
    have hX5 : ∀ v, v ∈ X → vS v ≠ 5 := fun v hv => (w3 v hv).n5
    have hlen : f.W.length = N + (V.length + 1) := by rw [w1, List.length_append, w2]; rfl
    have hvln : vln f.W = N + (1 + vln V) := by
      rw [w1, (mln_app X (cv :: V)).2, vlnX hX5, w2]
      show N + ((if vS cv = 5 then 0 else 1) + vln V) = _
      rw [if_neg wc.n5]
    obtain ⟨m3, em3⟩ : ∃ m3, m3 = mSA m2 120 t (nI (vsz r + vln (cv :: V))) := ⟨_, rfl⟩
    obtain ⟨hM3, om3⟩ := u3.drop (X := X) (V := cv :: V) w1 hX5
    rw [← em3] at hM3 om3
    have hvc : vln (cv :: V) = 1 + vln V := by show (if vS cv = 5 then 0 else 1) + vln V = _; rw [if_neg wc.n5]
    have hme3 : mI m3 127 = nI t := by rw [em3]; exact b2
    obtain ⟨m4, v1, v2, v3, v4⟩ := hM3.pop (n := n) (x := cv) (V := V) hme3 t12 rfl wc.n5
    have hpart : f_X12_stepPart n m2 (nI o) = (if vS cv = (4 : Int32) then (f_X12_stepPart_J68 n m4 (nI o) (nI (9000 * t + (vsz r + vln (cv :: V)))) (mv h.1 cv)) else (Option.bind (f_X12_failure n m4 (3 : Int32)) fun p14 => some ((0 : Int32), p14.2))) := by
      unfold f_X12_stepPart
      rw [b2, m_ld120 t12, bs_some, m_ld44 N6, bs_some, hm120, N3, nI_sub (by omega), m_st120 t12, bs_some, show vsz (f :: r) - N = vsz r + vln (cv :: V) by omega, ← em3, hme3, m_ld120 t12, bs_some, show mA m3 120 t = nI (vsz r + vln (cv :: V)) by rw [em3, mA_SAe], m_ld36 N6, bs_some, show mA m3 36 o = nI s0 by rw [em3, mA_SAo (by decide)]; exact S3, if_pos (s4i.mpr q), v1, bs_some]
      dsimp only
      rw [v2, show (9000 : Int32) = nI 9000 from rfl, nI_mul, nI_add]
    have hpk : f_X7_peek n c2 t (cI c2 299 o) = some (cv, c2) := by
      rw [N4]
      have := g3.peek (n := n) (k := N) g2 t12 (by show N < f.W.length; omega)
      refine this.trans ?_
      congr 2
      show f.W[N] = cv
      simp only [w1]
      rw [List.getElem_append_right (by omega)]
      simp [w2]
    by_cases qc : vS cv = 4
    · obtain ⟨c3, k1, k2, k3, k4, k5, k6, k7, k8, k9, k10⟩ := c_call (n := n) (t := t) (u := o) (A := sz (((f.sp (f.p + 3)).sW V) :: r) + 1) (B := sz (((f.sp (f.p + 3)).sW V) :: r)) (gv := cv.toInt32) t12 N6 g2 g3
      have hs1 : sz (((f.sp (f.p + 3)).sW V) :: r) = sz r + f.d + f.L.length + V.length := rfl
      refine call_nxt (p1 := f.p + 3) (u := o) (dd := 1) (s0 := s0) (c2 := c3) (b2 := b) (m2 := m4) (XS := X ++ [cv]) (W' := V) (xs := X.reverse) (sY := List.replicate (N + 1) none) (s2 := r0) (e' := e') (gv := cv.toInt32) (mu := mv h.1 cv) hn hC hZ hr hA ?_ (ble.refl b) k2 ?_ ?_ (oc.tr (k4.mo (by decide))) k5 k6 (by rw [List.length_append, List.length_reverse]; simp; omega) (by omega) (fun i hi => ?_) (fun v hv => w3 v (List.mem_reverse.mp hv)) (by rw [List.length_reverse]; omega) k7 k8 k9 ai2 ?_ S1 (fun _ => ?_) v3 (om.tr ((om3.mo (by decide)).tr (v4.mo (by decide)))) x1 w4 x2 (by omega) ?_ (fun m' hm' => ?_) (fun m5 g0 z1 z2 z3 z4 z5 => ?_)
      · rw [hfe]
        refine c_ck ((j69_10 n t c b _ _ _ _).trans ?_) (Nat.le_refl _) (Nat.le_refl _)
        rw [g1, bs_some, if_neg (by decide), ho]
        dsimp only
        rw [c_unitAt N6, bs_some]
        unfold f_X1_callPart
        dsimp only
        rw [S4, if_pos (s4i.mpr q), hpk, bs_some]
        dsimp only
        rw [c_vS, bs_some]
        dsimp only
        rw [if_pos qc, Nat.one_mul, hsz2, N4, nI_sub (by omega), show (1 : Int32) = nI 1 from rfl, nI_sub (by omega), show sz (f :: r) - N = sz (((f.sp (f.p + 3)).sW V) :: r) + 1 by omega, Nat.add_sub_cancel, k1, bs_some, bs_some]
      · have e1 : (f.sp (f.p + 3)).sW (X ++ [cv] ++ V) = f.sp (f.p + (1 + 2 * nO 10)) := by rw [List.append_assoc, List.singleton_append, ← w1]; rfl
        rw [e1]; exact k3
      · intro v hv
        rcases List.mem_append.mp hv with z | z
        · exact hX5 v z
        · rw [List.mem_singleton.mp z]; exact wc.n5
      · rw [List.length_reverse, w2] at hi
        have := g3.2.2.2.2.2.1.nth (k := N - 1 - i) (by show N - 1 - i < f.W.length; omega)
        have e1 : sz r + (f.sp (f.p + (1 + 2 * nO 10))).d + (f.sp (f.p + (1 + 2 * nO 10))).L.length + ((f.sp (f.p + (1 + 2 * nO 10))).W.length - 1 - (N - 1 - i)) = sz (((f.sp (f.p + 3)).sW V) :: r) + 1 + i := by
          show sz r + f.d + f.L.length + (f.W.length - 1 - (N - 1 - i)) = _
          omega
        rw [e1] at this
        rw [k10, this, rev_get]
        show f.W[N - 1 - i] = _
        simp only [w1]
        rw [List.getElem_append_left (by omega)]
        congr 1; omega
      · rw [md_frA v4.1 (by decide), md_frA om3.1 (by decide)]; exact S3
      · rcases wc with z | z | ⟨z, -⟩ | ⟨z, -⟩ | ⟨-, z⟩
        · rw [z] at qc; exact absurd qc (by decide)
        · rw [z] at qc; exact absurd qc (by decide)
        · rw [z] at qc; exact absurd qc (by decide)
        · rw [z] at qc; exact absurd qc (by decide)
        · by_cases qh : h.1 = true
          · rw [if_pos qh] at z ⊢
            exact ⟨z, if_pos ⟨qh, qc⟩⟩
          · rw [if_neg qh] at z ⊢
            exact ⟨z, if_neg (fun y => qh y.1)⟩
      · show sz r + f.d + f.L.length + (X ++ [cv] ++ V).length < 32700
        rw [List.append_assoc, List.singleton_append, ← w1]; omega
      · rw [e0, hpart, if_pos qc]
        unfold f_X12_stepPart_J68
        have hme4 : mI m4 127 = nI t := by rw [md_frI v4.1 (by decide)]; exact hme3
        rw [hme4, hm', bs_some]
        dsimp only
        rw [if_pos rfl, bs_some, bs_some]
      · obtain ⟨m6, y1, y2, y3⟩ := lcl m4 m5 g0 X.reverse V (9000 * t + (vsz r + vln (cv :: V))) (by rw [List.length_reverse]; exact w2) z2 z3 z4 z5 (by rw [md_frA v4.1 (by decide), md_frA om3.1 (by decide)]; exact N3) (by omega) (fun i hi => by
          rw [List.length_reverse, w2] at hi
          have hw8 := u3.1.2.2.2.2.2.2.2.1
          have hw8' : MWk m2 t h.1 (r.length + 1) (D.cb f.u) (vsz r) (tsz r) (X ++ cv :: V) := by rw [← w1]; exact hw8
          obtain ⟨n1, n2⟩ := hw8'.nth hX5 (X.length - 1 - i) (by omega)
          rw [show X.length - 1 - (X.length - 1 - i) = i by omega] at n1 n2
          rw [rev_get, md_frA v4.1 (by decide), md_frA v4.1 (by decide), md_frA om3.1 (by decide), md_frA om3.1 (by decide), show 9000 * t + (vsz r + vln (cv :: V)) + i = 9000 * t + (vsz r + vln (cv :: V) + i) by omega, n1, n2]
          exact ⟨rfl, rfl⟩)
        refine ⟨m6, ?_, y2, y3⟩
        rw [e0, hpart, if_pos qc]
        unfold f_X12_stepPart_J68
        have hme4 : mI m4 127 = nI t := by rw [md_frI v4.1 (by decide)]; exact hme3
        rw [hme4, z1, bs_some]
        dsimp only
        rw [if_neg ne10, y1, bs_some, bs_some, bs_some]
    · obtain ⟨k1, k2, k3, k4, k5⟩ := g3.fail (n := n) (x := 3) g2
      refine fail_nxt (sY := List.replicate (N + 1) none) (s2 := r0) (X0 := X ++ [cv]) (W' := V) (p1 := f.p + 3) (c2 := cSI c2 237 t 3) (b2 := b) (m2 := m4) hn hC hZ hr hA ?_ (ble.refl b) k2 ?_ ?_ k5 (oc.tr (k4.mo (by decide))) (fun m' hm' => ?_) v3.1 (om.tr ((om3.mo (by decide)).tr (v4.mo (by decide)))) x1 w4 ?_
      · rw [hfe]
        refine c_ck ((j69_10 n t c b _ _ _ _).trans ?_) (Nat.le_refl _) (Nat.le_refl _)
        rw [g1, bs_some, if_neg (by decide), ho]
        dsimp only
        rw [c_unitAt N6, bs_some]
        unfold f_X1_callPart
        dsimp only
        rw [S4, if_pos (s4i.mpr q), hpk, bs_some]
        dsimp only
        rw [c_vS, bs_some]
        dsimp only
        rw [if_neg qc, k1, bs_some, bs_some]
      · have e1 : (f.sp (f.p + 3)).sW (X ++ [cv] ++ V) = f.sp (f.p + (1 + 2 * nO 10)) := by rw [List.append_assoc, List.singleton_append, ← w1]; rfl
        rw [e1]; exact k3
      · intro v hv
        rcases List.mem_append.mp hv with z | z
        · exact hX5 v z
        · rw [List.mem_singleton.mp z]; exact wc.n5
      · rw [e0, hpart, if_neg qc, hm', bs_some, bs_some, bs_some]
      · show sz r + f.d + f.L.length + (X ++ [cv] ++ V).length < 32768
        rw [List.append_assoc, List.singleton_append, ← w1]; omega
  · rw [show pops m1 e = N by unfold pops; rw [t6]; show (if mA m1 36 (oN e.2.1) = 4 then 1 else 0) + aN m1 44 (oN e.2.1) = N; rw [ai1, oN_nI (by omega), N2, S2, if_neg (fun z => q (s4i.mp z))]; omega] at x1
    have t2' := t2
    rw [x1] at t2'
    obtain ⟨X, V, w1, w2, w3, w4⟩ := t2'.pops
    have hX5 : ∀ v, v ∈ X → vS v ≠ 5 := fun v hv => (w3 v hv).n5
    have hlen : f.W.length = N + V.length := by rw [w1, List.length_append, w2]
    have hvln : vln f.W = N + vln V := by rw [w1, (mln_app X V).2, vlnX hX5, w2]
    obtain ⟨m3, em3⟩ : ∃ m3, m3 = mSA m2 120 t (nI (vsz r + vln V)) := ⟨_, rfl⟩
    obtain ⟨hM3, om3⟩ := u3.drop (X := X) (V := V) w1 hX5
    rw [← em3] at hM3 om3
    have hme3 : mI m3 127 = nI t := by rw [em3]; exact b2
    have hpart : f_X12_stepPart n m2 (nI o) = f_X12_stepPart_J68 n m3 (nI o) (nI (9000 * t + (vsz r + vln V))) 0 := by
      unfold f_X12_stepPart
      rw [b2, m_ld120 t12, bs_some, m_ld44 N6, bs_some, hm120, N3, nI_sub (by omega), m_st120 t12, bs_some, show vsz (f :: r) - N = vsz r + vln V by omega, ← em3, hme3, m_ld120 t12, bs_some, show mA m3 120 t = nI (vsz r + vln V) by rw [em3, mA_SAe], m_ld36 N6, bs_some, show mA m3 36 o = nI s0 by rw [em3, mA_SAo (by decide)]; exact S3, if_neg (fun z => q (s4i.mp z)), show (9000 : Int32) = nI 9000 from rfl, nI_mul, nI_add]
    obtain ⟨c3, k1, k2, k3, k4, k5, k6, k7, k8, k9, k10⟩ := c_call (n := n) (t := t) (u := o) (A := sz (((f.sp (f.p + 3)).sW V) :: r) + 0) (B := sz (((f.sp (f.p + 3)).sW V) :: r)) (gv := -1) t12 N6 g2 g3
    have hs1 : sz (((f.sp (f.p + 3)).sW V) :: r) = sz r + f.d + f.L.length + V.length := rfl
    refine call_nxt (p1 := f.p + 3) (u := o) (dd := 0) (s0 := s0) (c2 := c3) (b2 := b) (m2 := m3) (XS := X) (W' := V) (xs := X.reverse) (sY := List.replicate N none) (s2 := r0) (e' := e') (gv := -1) (mu := 0) hn hC hZ hr hA ?_ (ble.refl b) k2 ?_ hX5 (oc.tr (k4.mo (by decide))) k5 k6 (by rw [List.length_reverse]; omega) (by omega) (fun i hi => ?_) (fun v hv => w3 v (List.mem_reverse.mp hv)) (by rw [List.length_reverse]; omega) k7 k8 k9 ai2 ?_ S1 (fun z => absurd z q) hM3 (om.tr (om3.mo (by decide))) x1 w4 x2 (by omega) ?_ (fun m' hm' => ?_) (fun m5 g0 z1 z2 z3 z4 z5 => ?_)
    · rw [hfe]
      refine c_ck ((j69_10 n t c b _ _ _ _).trans ?_) (Nat.le_refl _) (Nat.le_refl _)
      rw [g1, bs_some, if_neg (by decide), ho]
      dsimp only
      rw [c_unitAt N6, bs_some]
      unfold f_X1_callPart
      dsimp only
      rw [S4, if_neg (fun z => q (s4i.mp z)), Nat.one_mul, hsz2, N4, nI_sub (by omega), show sz (f :: r) - N = sz (((f.sp (f.p + 3)).sW V) :: r) by omega]
      rw [Nat.add_zero] at k1
      rw [k1, bs_some, bs_some]
    · have e1 : (f.sp (f.p + 3)).sW (X ++ V) = f.sp (f.p + (1 + 2 * nO 10)) := by rw [← w1]; rfl
      rw [e1]; exact k3
    · rw [List.length_reverse, w2] at hi
      have := g3.2.2.2.2.2.1.nth (k := N - 1 - i) (by show N - 1 - i < f.W.length; omega)
      have e1 : sz r + (f.sp (f.p + (1 + 2 * nO 10))).d + (f.sp (f.p + (1 + 2 * nO 10))).L.length + ((f.sp (f.p + (1 + 2 * nO 10))).W.length - 1 - (N - 1 - i)) = sz (((f.sp (f.p + 3)).sW V) :: r) + 0 + i := by
        show sz r + f.d + f.L.length + (f.W.length - 1 - (N - 1 - i)) = _
        omega
      rw [e1] at this
      rw [k10, this, rev_get]
      show f.W[N - 1 - i] = _
      simp only [w1]
      rw [List.getElem_append_left (by omega)]
      congr 1; omega
    · rw [md_frA om3.1 (by decide)]; exact S3
    · show sz r + f.d + f.L.length + (X ++ V).length < 32700
      rw [← w1]; omega
    · rw [e0, hpart]
      unfold f_X12_stepPart_J68
      rw [hme3, hm', bs_some]
      dsimp only
      rw [if_pos rfl, bs_some, bs_some]
    · obtain ⟨m6, y1, y2, y3⟩ := lcl m3 m5 g0 X.reverse V (9000 * t + (vsz r + vln V)) (by rw [List.length_reverse]; exact w2) z2 z3 z4 z5 (by rw [md_frA om3.1 (by decide)]; exact N3) (by omega) (fun i hi => by
        rw [List.length_reverse, w2] at hi
        have hw8 := u3.1.2.2.2.2.2.2.2.1
        have hw8' : MWk m2 t h.1 (r.length + 1) (D.cb f.u) (vsz r) (tsz r) (X ++ V) := by rw [← w1]; exact hw8
        obtain ⟨n1, n2⟩ := hw8'.nth hX5 (X.length - 1 - i) (by omega)
        rw [show X.length - 1 - (X.length - 1 - i) = i by omega] at n1 n2
        rw [rev_get, md_frA om3.1 (by decide), md_frA om3.1 (by decide), show 9000 * t + (vsz r + vln V) + i = 9000 * t + (vsz r + vln V + i) by omega, n1, n2]
        exact ⟨rfl, rfl⟩)
      refine ⟨m6, ?_, y2, y3⟩
      rw [e0, hpart]
      unfold f_X12_stepPart_J68
      rw [hme3, z1, bs_some]
      dsimp only
      rw [if_neg ne10, y1, bs_some, bs_some, bs_some]
