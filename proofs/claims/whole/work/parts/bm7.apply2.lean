/-! a function is applied -/
theorem i_apply {n mx d Z K st t : Nat} {C : Nat × Nat} {c c1 : cd_S} {b : cd_B} {m m1 : md_S} {D : PD} {h : HV} {Ls : List (List Int32)} {Fs : Nat → List FR} {f : FR} {r : List FR} {s : List SH} {e : EN} (hn : 40000 ≤ n) (hC : BC C) (hZ : Z + 1 < 2 ^ 31) (hr : RR n mx d Z C c b m c1 m1 D h Ls K st t Fs (f :: r)) (hA : AT c m m1 D h d t f r s e 8) : NXT n mx d Z C c b m c1 m1 D h K st t Fs (f :: r) := by
  obtain ⟨t1, t2, t3, t4, t5, ⟨t6, t7⟩, t8, t9, t10, ⟨t11, t12, t13, t14⟩, ⟨l1, l2, l3, l4, l5⟩⟩ := id hA
  obtain ⟨⟨hG, ⟨a1, a2, a3, a4, -⟩, -⟩, hB, hTC, hTM, -⟩ := id hr
  obtain ⟨kk, kk1, kk2⟩ := t8.2.2.2.2.2.2.1 t6
  have ho : opd (D.lo f.u) (D.P f.u) e = kk := by rw [opd_k t6 (by decide) (by decide) (by decide) (by decide) (by decide) (by decide), kk1, oN_nI (by omega)]
  obtain ⟨r0, e', x1, x2⟩ := t1.nx t5.1 t6 (by decide) (by decide) (by decide) (by decide) (by decide)
  obtain ⟨c2, g1, g2, g3, g4⟩ := hTC.step (n := n) (j := nO 8) hB
  obtain ⟨w0, f1, f2, -⟩ := m_fetch (n := n) a2 t12 hTM t5 t10 t1 t6 t7 t9
  obtain ⟨m2, u1, u2, u3, u4⟩ := hTM.step t12 (j := 3)
  have oc : OPC lc0 t c c2 := g4.mo (by decide)
  have om : OPM lm0 t m m2 := u4.mo (by decide)
  have hR2 := hr.1.op oc om
  obtain ⟨hG2, ⟨b1, b2, b3, b4, b5, b6, b7⟩, hO2⟩ := id hR2
  rw [show pops m1 e = kk + 1 by unfold pops; rw [t6]; show oN e.2.1 + 1 = kk + 1; rw [kk1, oN_nI (by omega)]] at x1
  rw [show psh e = [none] by unfold psh; rw [t6]; rfl] at x2
  rw [x1] at t2
  obtain ⟨X', V, w1, w2, w3, w4⟩ := t2.pops
  obtain ⟨X, fv, eX⟩ : ∃ X ob, X' = X ++ [ob] := by
    rcases List.eq_nil_or_concat X' with z | ⟨X, cv, z⟩
    · rw [z] at w2; exact absurd w2 (by simp)
    · exact ⟨X, cv, by rw [z, List.concat_eq_append]⟩
  have wX : X.length = kk := by rw [eX, List.length_append] at w2; simpa using w2
  have wo : VOK h fv := w3 fv (by rw [eX]; simp)
  have wXv : ∀ v, v ∈ X → VOK h v := fun v hv => w3 v (by rw [eX]; simp [hv])
  have hX5 : ∀ v, v ∈ X' → vS v ≠ 5 := fun v hv => (w3 v hv).n5
  have hlen : f.W.length = kk + 1 + V.length := by rw [w1, List.length_append, w2]
  have hvln : vln f.W = kk + 1 + vln V := by rw [w1, (mln_app X' V).2, vlnX hX5, w2]
  have hzz : sz (f :: r) = sz r + f.d + f.L.length + f.W.length := rfl
  have hvz : vsz (f :: r) = vsz r + vln f.W := rfl
  have hfe := c_fetch (n := n) hB hTC t11 t5 t1 t6 t7 t9
  have hszf : rsz c2 (9 + t) = sz (f :: r) := g3.2.2.1
  have hsz2 : cI c2 193 (9 + t) = nI (sz (f :: r)) := by rw [(g2.1 (9 + t) (by omega)).1, hszf]
  have hm120 : mA m2 120 t = nI (vsz (f :: r)) := u3.2
  have hpk : f_X7_peek n c2 t (nI kk) = some (fv, c2) := by
    have := g3.peek (n := n) (k := kk) g2 t12 (by show kk < f.W.length; omega)
    refine this.trans ?_
    congr 2
    show f.W[kk] = fv
    simp only [w1, eX]
    rw [List.getElem_append_left (by simp; omega), List.getElem_append_right (by omega)]
    simp [wX]
  have hstep : f_X1_step n c b t = cd_ck (fun (q : (Int32 × cd_S × cd_B)) => q.2.2) b (Option.bind (f_X1_apply n c2 b t (nI kk)) fun p26 => cd_ck (fun (q : (Int32 × cd_S × cd_B)) => q.2.2) (p26.2.2) <| some ((p26.1, p26.2.1, p26.2.2))) := by
    rw [hfe]
    congr 1
    refine (j69_8 n t c b _ _ _ _).trans ?_
    rw [g1, bs_some, if_neg (by decide), ho]
  obtain ⟨m3, em3⟩ : ∃ m3, m3 = mSA m2 120 t (nI (vsz r + vln V)) := ⟨_, rfl⟩
  obtain ⟨hM3, om3⟩ := u3.drop (X := X') (V := V) w1 hX5
  rw [← em3] at hM3 om3
  have hme3 : mI m3 127 = nI t := by rw [em3]; exact b2
  have hw8 := u3.1.2.2.2.2.2.2.2.1
  have hw8' : MWk m2 t h.1 (r.length + 1) (D.cb f.u) (vsz r) (tsz r) (X' ++ V) := by rw [← w1]; exact hw8
  have hcell : ∀ i (hi : i < X'.reverse.length), mA m3 121 (9000 * t + (vsz r + vln V) + i) = vS X'.reverse[i] ∧ mA m3 122 (9000 * t + (vsz r + vln V) + i) = mv h.1 X'.reverse[i] := fun i hi => by
    rw [List.length_reverse] at hi
    obtain ⟨n1, n2⟩ := hw8'.nth hX5 (X'.length - 1 - i) (by omega)
    rw [show X'.length - 1 - (X'.length - 1 - i) = i by omega] at n1 n2
    rw [rev_get, md_frA om3.1 (by decide), md_frA om3.1 (by decide), show 9000 * t + (vsz r + vln V) + i = 9000 * t + (vsz r + vln V + i) by omega, n1, n2]
    exact ⟨rfl, rfl⟩
  have hrev : X'.reverse = fv :: X.reverse := by rw [eX, List.reverse_append]; rfl
  obtain ⟨c0a, c0b⟩ := hcell 0 (by rw [List.length_reverse]; omega)
  simp only [hrev, List.getElem_cons_zero, Nat.add_zero] at c0a c0b
  have hmod : ∀ Y, (if vS fv = (3 : Int32) then (Option.bind (mldA m3 96 (mv h.1 fv)) fun v6 => Option.bind (mldA m3 39 v6) fun v7 => if v7 = nI kk then (Option.bind (f_X12_begin n m3 (nI t) v6 (0 : Int32)) fun p8 => if p8.1 = 0 then (some ((0 : Int32), p8.2)) else (Option.bind (f_X12_takeCaptured n p8.2 ((mI p8.2 127)) (mv h.1 fv)) fun p9 => Option.bind (f_X12_applies_L112 n (nI kk) (nI (9000 * t + (vsz r + vln V))) v6 n p9.2 0) fun q15 => some ((0 : Int32), q15.1))) else (Option.bind (f_X12_failure n m3 (4 : Int32)) fun p16 => some ((0 : Int32), p16.2))) else (Option.bind (f_X12_failure n m3 (3 : Int32)) fun p17 => some ((0 : Int32), p17.2))) = some (0, Y) → f_X12_step n m = some (0, Y) := fun Y hY => by
    have e1 : f_X12_step n m = Option.bind (f_X12_stepOther n m (nI (60 * t + r.length)) 8 w0 (nI (D.cb f.u + f.p))) fun p1 => some ((0 : Int32), p1.2) := f1.trans (ms_8 n m _ _ _)
    rw [e1, so_8, u1, bs_some, show nI (D.cb f.u + f.p) + 3 = nI (D.cb f.u + f.p) + nI 3 from rfl, u2, bs_some, f2 (by decide), ho]
    unfold f_X12_applies
    rw [b2, m_ld120 t12, bs_some, bs_some, hm120, show (9000 : Int32) = nI 9000 from rfl, nI_mul, nI_add, nI_sub (by omega), show (1 : Int32) = nI 1 from rfl, nI_sub (by omega), nI_add, nI_sub (by omega), m_st120 t12, bs_some, show vsz (f :: r) - (kk + 1) = vsz r + vln V by omega, ← em3, hme3, show 9000 * t + vsz (f :: r) - kk - 1 = 9000 * t + (vsz r + vln V) by omega, m_ld121 (by omega), bs_some, c0a, m_ld122 (by omega), bs_some, c0b]
    refine (congrArg (fun z => Option.bind (Option.bind z fun p22 => some ((0 : Int32), p22.2)) fun p1 => some ((0 : Int32), p1.2)) hY).trans ?_
    rfl
  have fl : ∀ (x : Int32), f_X1_apply n c2 b t (nI kk) = some (2, cSI c2 237 t x, b) → (∀ m', f_X12_failure n m3 x = some (0, m') → f_X12_step n m = some (0, m')) → NXT n mx d Z C c b m c1 m1 D h K st t Fs (f :: r) := fun x hc hm => by
    obtain ⟨k1, k2, k3, k4, k5⟩ := g3.fail (n := n) (x := x) g2
    refine fail_nxt (sY := List.replicate (kk + 1) none) (s2 := r0) (X0 := X') (W' := V) (p1 := f.p + 3) (c2 := cSI c2 237 t x) (b2 := b) (m2 := m3) hn hC hZ hr hA ?_ (ble.refl b) k2 ?_ hX5 k5 (oc.tr (k4.mo (by decide))) hm hM3.1 (om.tr (om3.mo (by decide))) x1 w4 ?_
    · rw [hstep, hc, bs_some]
      exact c_ck (c_ck rfl (Nat.le_refl _) (Nat.le_refl _)) (Nat.le_refl _) (Nat.le_refl _)
    · rw [← w1]; exact k3
    · show sz r + f.d + f.L.length + (X' ++ V).length < 32768
      rw [← w1]; omega
  by_cases q : vS fv = 3
  · have hv0 : mv h.1 fv = fv.toInt32 := mv_n4 (by rw [q]; decide)
    rw [if_pos q] at hmod
    obtain ⟨i, o, a, i1, i2⟩ : ∃ i o a, fv.toInt32 = nI i ∧ h.2.1[i]? = some (false, o, a) := by
      rcases wo with z | z | ⟨z, -⟩ | ⟨-, z⟩ | ⟨z, -⟩
      · rw [z] at q; exact absurd q (by decide)
      · rw [z] at q; exact absurd q (by decide)
      · rw [z] at q; exact absurd q (by decide)
      · exact z
      · rw [z] at q; exact absurd q (by decide)
    have hR3 : REST n mx d Z c2 m3 c1 m1 D h Ls K st t Fs := hR2.op (OPC.refl _ _ _) (om3.mo (by decide))
    have hHP := hR3.1.2.2.2.2.2.2.2.1
    obtain ⟨o1, o2, o3, o4, o5⟩ := hHP.ob (n := n) g2 i1 i2
    obtain ⟨H, ⟨hp1, hp2, hp3, hp4, hp5, hp6⟩, h7, h8⟩ := id hHP
    obtain ⟨d1, d2, d3, d4, -, d5⟩ := h7 i false o a i2
    obtain ⟨o6, o7, o8⟩ := d5 rfl
    obtain ⟨⟨N, N1, N2, N3, N4⟩, ⟨p, p1, p2, p3, p4⟩, ⟨s0, S1, S2, S3, S4⟩, N5, N6⟩ := hR3.1.1.un o6
    rw [hv0, i1, o4, bs_some, m_ld39 N6, bs_some, p3] at hmod
    have hap0 : ∀ R, (cd_ck (fun (q : (Int32 × cd_S × cd_B)) => q.2.2) b (if nI p = nI kk then (Option.bind (f_X1_pushCaptured n c2 b t fv o) fun p5 => cd_ck (fun (q : (Int32 × cd_S × cd_B)) => q.2.2) (p5.2.2) <| Option.bind (f_X1_apply_L69 n t (nI kk) o (nI (sz (f :: r))) n p5.2.1 (p5.2.2) 0) fun q10 => cd_ck (fun (q : (Int32 × cd_S × cd_B)) => q.2.2) (q10.2.1) <| Option.bind (f_X1_call n q10.1 t o (nI (sz (f :: r))) (((nI (sz (f :: r)) - 1) - nI kk)) ((-1) : Int32)) fun p12 => some ((p12.1, p12.2, q10.2.1))) else (Option.bind (f_X1_fail n c2 t (4 : Int32)) fun p13 => some ((p13.1, p13.2, b))))) = R → f_X1_apply n c2 b t (nI kk) = R := fun R hR => by
      unfold f_X1_apply
      rw [hpk, bs_some]
      dsimp only
      rw [c_vS, bs_some]
      dsimp only
      rw [if_pos q, o2, bs_some]
      dsimp only
      rw [c_unitAt N6, bs_some]
      dsimp only
      rw [p4, Nat.one_mul, hsz2]
      exact hR
    by_cases qp : p = kk
    · have hSU := hR3.1.1.2.2.2.2.2 o o6
      have hNL : N + kk ≤ D.L o := by have := hSU.2.1.2; omega
      have hL210 := hSU.2.1.1
      rw [if_pos (by rw [qp])] at hmod
      -- the class copies
      obtain ⟨c3, b3', j1, j2, j3, j4, j5, j6, j7⟩ := c_pcapL (n := n) (T := t) (u := o) (N := N) (S := sz (f :: r)) (a := a) (c0 := c2) (fv := fv) (g := fun q => cRF c2 7 (a + q)) hC t12 (by omega) (by omega) (by omega) N4 (fun c' b' hb' hf' => (hHP.fr hf' (md_fr_refl m3 []) (by simp; omega) (by simp)).ob (n := n) hb' i1 i2 |>.2.2.1) (fun i hi => ⟨by omega, rfl⟩) N n 0 c2 b (by omega) (by omega) g2 (OPC.refl _ _ _) (by omega)
      obtain ⟨c4, b4', y1, y2, y3, y4, y5, y6, y7⟩ := c_argL (n := n) (T := t) (u := o) (N := kk) (S := sz (f :: r) + N) (B := sz (f :: r)) (c0 := c3) (g := fun q => X.reverse.getD q 0) hC t12 (by omega) (by omega) (by omega) (by omega) (fun i hi => by
        rw [j6 _ (by omega)]
        have := g3.2.2.2.2.2.1.nth (k := kk - 1 - i) (by show kk - 1 - i < f.W.length; omega)
        have e1 : sz r + (f.sp (f.p + (1 + 2 * nO 8))).d + (f.sp (f.p + (1 + 2 * nO 8))).L.length + ((f.sp (f.p + (1 + 2 * nO 8))).W.length - 1 - (kk - 1 - i)) = sz (f :: r) - kk + i := by
          show sz r + f.d + f.L.length + (f.W.length - 1 - (kk - 1 - i)) = _
          omega
        rw [e1] at this
        rw [this, List.getD_eq_getElem?_getD, List.getElem?_eq_getElem (by rw [List.length_reverse]; omega), Option.getD_some, rev_get]
        show f.W[kk - 1 - i] = _
        simp only [w1, eX]
        rw [List.getElem_append_left (by simp; omega), List.getElem_append_left (by omega)]
        congr 1; omega) kk n 0 c3 b3' (by omega) (by omega) j2 (OPC.refl _ _ _) j5 (fun _ _ => rfl)
      obtain ⟨xs, exs⟩ : ∃ xs, xs = (List.range N).map (fun q => cRF c2 7 (a + q)) ++ X.reverse := ⟨_, rfl⟩
      have hxl : xs.length = N + kk := by rw [exs, List.length_append, List.length_map, List.length_range, List.length_reverse, wX]
      have hxg : ∀ q (hq : q < xs.length), cRF c4 (9 + t) (sz (f :: r) + q) = xs[q] := fun q hq => by
        by_cases z : q < N
        · rw [y6 _ (by omega), j7 q (by omega) z]
          simp only [exs]
          rw [List.getElem_append_left (by simp; exact z)]
          simp
        · have := y7 (q - N) (by omega) (by omega)
          rw [show sz (f :: r) + N + (q - N) = sz (f :: r) + q by omega] at this
          rw [this, List.getD_eq_getElem?_getD, List.getElem?_eq_getElem (by rw [List.length_reverse]; omega), Option.getD_some]
          simp only [exs]
          rw [List.getElem_append_right (by simp; omega)]
          simp
      have o4' : OPC [] t c2 c4 := j4.tr y4
      have hT4 : TC c4 t ((f.sp (f.p + (1 + 2 * nO 8))).sW (xs.reverse ++ f.W) :: r) := g3.ext (Y := xs.reverse) o4' (by rw [List.length_reverse, y5, hxl]; show sz (f :: r) + N + kk = sz (f :: r) + (N + kk); omega) (fun q hq => by
        have hq' : q < sz (f :: r) := hq
        rw [y6 q (by omega), j6 q (by omega)]) (fun i hi => by
        simp only [List.reverse_reverse]
        exact hxg i (by rw [List.length_reverse] at hi; exact hi))
      have hs1 : sz (((f.sp (f.p + 3)).sW V) :: r) = sz r + f.d + f.L.length + V.length := rfl
      obtain ⟨c5, k1, k2, k3, k4, k5, k6, k7, k8, k9, k10⟩ := c_call (n := n) (t := t) (u := o) (A := sz (((f.sp (f.p + 3)).sW V) :: r) + (kk + 1)) (B := sz (((f.sp (f.p + 3)).sW V) :: r)) (gv := -1) t12 N6 y2 hT4
      have hb4 : ble b4' b := ble.tr y3 j3
      have hxv : ∀ v, v ∈ xs → VOK h v := fun v hv => by
        rw [exs] at hv
        rcases List.mem_append.mp hv with z | z
        · obtain ⟨q, q1, q2⟩ := List.mem_map.mp z
          rw [← q2]
          exact (h8 (a + q) (by have := List.mem_range.mp q1; omega)).2.2
        · exact wXv v (List.mem_reverse.mp z)
      refine call_nxt (p1 := f.p + 3) (u := o) (dd := kk + 1) (s0 := s0) (c2 := c5) (b2 := b4') (m2 := m3) (XS := xs.reverse ++ X') (W' := V) (xs := xs) (sY := List.replicate (kk + 1) none) (s2 := r0) (e' := e') (gv := -1) (mu := 0) hn hC hZ hr hA ?_ hb4 k2 ?_ ?_ (oc.tr ((o4'.mo (by simp)).tr (k4.mo (by decide)))) k5 k6 (by rw [List.length_append, List.length_reverse, w2]; omega) (by omega) (fun i hi => ?_) hxv (by omega) k7 k8 k9 o6 S3 S1 (fun z => ?_) hM3 (om.tr (om3.mo (by decide))) x1 w4 x2 (by omega) ?_ (fun m' hm' => hmod m' ?_) (fun m5 g0 z1 z2 z3 z4 z5 => ?_)
      · rw [hstep, hap0 (some (3, c5, b4')) ?_, bs_some]
        · exact c_ck (c_ck rfl (Nat.le_refl _) (Nat.le_refl _)) hb4.1 hb4.2
        · refine c_ck ?_ hb4.1 hb4.2
          rw [if_pos (by rw [qp])]
          unfold f_X1_pushCaptured
          rw [show f_X1_pushCaptured_L3 n t o fv n c2 b 0 = _ from j1, bs_some]
          rw [c_ck (b := b) (c_ck (fb := fun (q : (Int32 × cd_S × cd_B)) => q.2.2) (b := b3') rfl (Nat.le_refl _) (Nat.le_refl _)) j3.1 j3.2, bs_some]
          refine c_ck ?_ y3.1 y3.2
          dsimp only
          rw [show f_X1_apply_L69 n t (nI kk) o (nI (sz (f :: r))) n c3 b3' 0 = _ from y1, bs_some]
          refine c_ck ?_ (Nat.le_refl _) (Nat.le_refl _)
          dsimp only
          rw [show (1 : Int32) = nI 1 from rfl, nI_sub (by omega), nI_sub (by omega), show sz (f :: r) - 1 - kk = sz (((f.sp (f.p + 3)).sW V) :: r) by omega, show sz (f :: r) = sz (((f.sp (f.p + 3)).sW V) :: r) + (kk + 1) by omega, show (-nI 1 : Int32) = -1 from rfl, k1, bs_some]
      · have e1 : (f.sp (f.p + 3)).sW (xs.reverse ++ X' ++ V) = (f.sp (f.p + (1 + 2 * nO 8))).sW (xs.reverse ++ f.W) := by rw [List.append_assoc, ← w1]; rfl
        rw [e1]; exact k3
      · intro v hv
        rcases List.mem_append.mp hv with z | z
        · exact (hxv v (List.mem_reverse.mp z)).n5
        · exact hX5 v z
      · rw [k10, show sz (((f.sp (f.p + 3)).sW V) :: r) + (kk + 1) + i = sz (f :: r) + i by omega]
        exact hxg i hi
      · rw [S2, z] at o7; exact absurd rfl o7
      · show sz r + f.d + f.L.length + (xs.reverse ++ X' ++ V).length < 32700
        rw [List.append_assoc, ← w1, List.length_append, List.length_reverse]; omega
      · rw [hm', bs_some]
        dsimp only
        rw [if_pos rfl]
      · have e1 : g0.sL (xs.take 0 ++ nones (D.L o - 0)) = g0 := by
          rw [List.take_zero, List.nil_append, Nat.sub_zero, ← z2]; rfl
        obtain ⟨m6, q1, q2, q3⟩ := m_takeL (n := n) (t := t) (u := o) (L := D.L o) (N := N) (fi := i) (a := a) (m0 := m5) (rw := h.1) (cb := D.cb) (g := g0) (R := ((f.sp (f.p + 3)).sW V) :: r) (xs := xs) t12 N6 o1 (by omega) (by omega) (by omega) (by omega) (by rw [z5 96 (by simp)]; exact d3) (by rw [z5 44 (by simp)]; exact N3) (by rw [z5 97 (by simp)]; exact d4) (fun q hq => by
          obtain ⟨v1, v2, v3⟩ := h8 (a + q) (by omega)
          rw [z5 99 (by simp), z5 100 (by simp), v1, v2]
          have hx : xs[q]'(by omega) = cRF c2 7 (a + q) := by
            simp only [exs]
            rw [List.getElem_append_left (by simp; exact hq)]
            simp
          rw [hx]
          exact ⟨rfl, rfl⟩) N n 0 m5 (by omega) (by omega) (OPM.refl _ _ _) (by rw [e1]; exact z3)
        have hme6 : mI m6 127 = nI t := by rw [md_frI q2.1 (by decide)]; exact z4
        obtain ⟨m7, v1, v2, v3⟩ := m_argL (n := n) (t := t) (u := o) (L := D.L o) (N := N) (k := kk) (y := 9000 * t + (vsz r + vln V)) (m0 := m6) (rw := h.1) (cb := D.cb) (g := g0) (R := ((f.sp (f.p + 3)).sW V) :: r) (xs := xs) t12 N6 hxl (by omega) (by omega) (by omega) (by rw [md_frA q2.1 (by decide), z5 44 (by simp)]; exact N3) (fun q hq => by
          obtain ⟨e3, e4⟩ := hcell (q + 1) (by rw [List.length_reverse]; omega)
          rw [md_frA q2.1 (by decide), md_frA q2.1 (by decide), z5 121 (by simp), z5 122 (by simp), show 9000 * t + (vsz r + vln V) + 1 + q = 9000 * t + (vsz r + vln V) + (q + 1) by omega, e3, e4]
          have hx : xs[N + q]'(by omega) = X'.reverse[q + 1]'(by rw [List.length_reverse]; omega) := by
            simp only [exs, hrev]
            rw [List.getElem_append_right (by simp)]
            simp only [List.length_map, List.length_range, Nat.add_sub_cancel_left]
            rw [List.getElem_cons_succ]
          rw [hx]
          exact ⟨rfl, rfl⟩) kk n 0 m6 (by omega) (by omega) (OPM.refl _ _ _) hme6 (by rw [Nat.add_zero]; exact q3)
        refine ⟨m7, hmod m7 ?_, v3, q2.tr v2⟩
        rw [z1, bs_some]
        dsimp only
        rw [if_neg ne10]
        unfold f_X12_takeCaptured
        have h111 : mA m5 111 t = nI (r.length + 1 + 1) := z3.1.1
        rw [z4, m_ld111 t12, bs_some, h111, show (60 : Int32) = nI 60 from rfl, nI_mul, nI_add, show (1 : Int32) = nI 1 from rfl, nI_sub (by omega), show 60 * t + (r.length + 1 + 1) - 1 = 60 * t + (((f.sp (f.p + 3)).sW V) :: r).length by rw [List.length_cons]; omega, show f_X12_takeCaptured_L17 n (nI t) (nI i) (nI (60 * t + (((f.sp (f.p + 3)).sW V) :: r).length)) n m5 0 = _ from q1, bs_some, bs_some]
        dsimp only
        rw [show f_X12_applies_L112 n (nI kk) (nI (9000 * t + (vsz r + vln V))) (nI o) n m6 0 = _ from v1, bs_some]
    · have qp' : ¬ nI p = nI kk := fun z => qp ((nI_eq (by omega) (by omega)).mp z)
      rw [if_neg qp'] at hmod
      refine fl 4 (hap0 _ ?_) (fun m' hm' => hmod m' ?_)
      · rw [if_neg qp']
        exact c_ck rfl (Nat.le_refl _) (Nat.le_refl _)
      · rw [hm', bs_some]
  · rw [if_neg q] at hmod
    refine fl 3 ?_ (fun m' hm' => hmod m' ?_)
    · unfold f_X1_apply
      rw [hpk, bs_some]
      dsimp only
      rw [c_vS, bs_some]
      dsimp only
      rw [if_neg q]
      exact c_ck rfl (Nat.le_refl _) (Nat.le_refl _)
    · rw [hm', bs_some]
