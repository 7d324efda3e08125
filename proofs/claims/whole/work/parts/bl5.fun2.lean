/-! a function as a value: both -/
theorem i_fun {n mx d Z K st t : Nat} {C : Nat × Nat} {c c1 : cd_S} {b : cd_B} {m m1 : md_S} {D : PD} {h : HV} {Ls : List (List Int32)} {Fs : Nat → List FR} {f : FR} {r : List FR} {s : List SH} {e : EN} (hn : 40000 ≤ n) (hC : BC C) (hZ : Z + 1 < 2 ^ 31) (hr : RR n mx d Z C c b m c1 m1 D h Ls K st t Fs (f :: r)) (hA : AT c m m1 D h d t f r s e 9) : NXT n mx d Z C c b m c1 m1 D h K st t Fs (f :: r) := by
  obtain ⟨t1, t2, t3, t4, t5, ⟨t6, t7⟩, t8, t9, t10, ⟨t11, t12, t13, t14⟩, ⟨l1, l2, l3, l4, l5⟩⟩ := id hA
  obtain ⟨⟨hG, ⟨a1, a2, a3, a4, -⟩, -⟩, hB, hTC, hTM, -⟩ := id hr
  obtain ⟨o, ai1, ai2⟩ := t8.2.2.2.2.2.2.2.1 (Or.inl t6)
  have hb35 := t13.1
  have ho : opd (D.lo f.u) (D.P f.u) e = o := by rw [opd_k t6 (by decide) (by decide) (by decide) (by decide) (by decide) (by decide), ai1, oN_nI (by omega)]
  have hn4 : mA m1 36 o ≠ 4 := by
    have := t8.2.2.2.2.2.2.2.2.1 t6
    rw [ai1, oN_nI (by omega)] at this
    exact this
  obtain ⟨r0, e', x1, x2⟩ := t1.nx t5.1 t6 (by decide) (by decide) (by decide) (by decide) (by decide)
  obtain ⟨c2, g1, g2, g3, g4⟩ := hTC.step (n := n) (j := nO 9) hB
  obtain ⟨w0, f1, f2, -⟩ := m_fetch (n := n) a2 t12 hTM t5 t10 t1 t6 t7 t9
  obtain ⟨m2, u1, u2, u3, u4⟩ := hTM.step t12 (j := 3)
  have oc : OPC lc0 t c c2 := g4.mo (by decide)
  have om : OPM lm0 t m m2 := u4.mo (by decide)
  have hR2 := hr.1.op oc om
  obtain ⟨hG2, ⟨b1, b2, b3, b4, b5, b6, b7⟩, hO2⟩ := id hR2
  obtain ⟨⟨N, N1, N2, N3, N4⟩, -, -, N5, N6⟩ := hG2.1.un ai2
  rw [show pops m1 e = N by unfold pops; rw [t6]; show aN m1 44 (oN e.2.1) = N; rw [ai1, oN_nI (by omega), N2]] at x1
  rw [show psh e = [none] by unfold psh; rw [t6]; rfl] at x2
  have t2' := t2
  rw [x1] at t2'
  obtain ⟨X, V, w1, w2, w3, w4⟩ := t2'.pops
  have hX5 : ∀ v, v ∈ X → vS v ≠ 5 := fun v hv => (w3 v hv).n5
  have hzz : sz (f :: r) = sz r + f.d + f.L.length + f.W.length := rfl
  have hvz : vsz (f :: r) = vsz r + vln f.W := rfl
  have hlen : f.W.length = N + V.length := by rw [w1, List.length_append, w2]
  have hvln : vln f.W = N + vln V := by rw [w1, (mln_app X V).2, vlnX hX5, w2]
  have hmln : mln f.W = mln V := by rw [w1, (mln_app X V).1, mlnX hX5, Nat.zero_add]
  have hfe := c_fetch (n := n) hB hTC t11 t5 t1 t6 t7 t9
  have hHP := hG2.2.2.2.2.2.2.2.1
  obtain ⟨H, ⟨h1, h2, h3, h4, h5, h6⟩, h7, h8⟩ := id hHP
  have hcnt : f_X1_thingCount n c2 = some (nI h.2.1.length, c2) := by
    unfold f_X1_thingCount
    rw [(g2.1 6 (by omega)).1, h1, show (2 : Int32) = nI 2 from rfl, nI_divk (by decide) (by decide) (by omega)]
  -- the model without what is captured
  obtain ⟨m3, em3⟩ : ∃ m3, m3 = mSA m2 120 t (nI (vsz r + vln V)) := ⟨_, rfl⟩
  have om3 : OPM [120] t m2 m3 := by rw [em3]; exact opm_1 (by decide)
  have hM3 : TM m3 t h.1 D.cb ((f.sp (f.p + 3)).sW V :: r) := by
    obtain ⟨⟨y1, y2, y3, y4, y5, ⟨i1, i2, i3, i4, i5⟩, y7, y8, y9⟩, y10⟩ := u3
    have o : ∀ g, g ≠ 120 → ∀ i, mA m3 g i = mA m2 g i := fun g q i => by rw [em3, mA_SAo q]
    have y8' : MWk m2 t h.1 (r.length + 1) (D.cb f.u) (vsz r) (tsz r) f.W := y8
    rw [w1] at y8'
    have e1 : tsz ((f.sp (f.p + 3)).sW V :: r) = tsz (f.sp (f.p + 3) :: r) := by show tsz r + mln V = tsz r + mln f.W; omega
    refine ⟨⟨by rw [o 111 (by decide)]; exact y1, y2, by rw [o 117 (by decide)]; exact y3, by rw [o 123 (by decide), e1]; exact y4, ⟨y5.1, by show vsz r + vln V ≤ 9000; omega, by omega⟩, ⟨by rw [o 112 (by decide)]; exact i1, by rw [o 113 (by decide)]; exact i2, by rw [o 114 (by decide)]; exact i3, fun z => by rw [o 115 (by decide)]; exact i4 z, by rw [o 116 (by decide)]; exact i5⟩, fun i hi => by rw [o 118 (by decide), o 119 (by decide)]; exact y7 i hi, y8'.sub.of (fun g j q _ hj => o g (by omega) _) (fun g j q1 q2 _ _ => o g (by omega) _), y9.of (fun g k q1 q2 _ => o g (by omega) _) (fun g j q _ => o g (by omega) _) (fun g j q hj => o g (by omega) _) (fun g j q1 q2 _ => o g (by omega) _)⟩, by rw [em3, mA_SAe]; rfl⟩
  have hm120 : mA m2 120 t = nI (vsz (f :: r)) := u3.2
  have e0 : f_X12_step n m = Option.bind (Option.bind (if (mI m3 95) = (2000 : Int32) then (Option.bind (f_X12_failure n m3 (9 : Int32)) fun p17 => some ((0 : Int32), p17.2)) else (Option.bind (f_X12_newThing n m3 (nI o) (nI N)) fun p5 => Option.bind (f_X12_closes_L49 n (nI o) (p5.1) n p5.2 0) fun q15 => Option.bind (f_X12_push n q15.1 (3 : Int32) (p5.1)) fun p16 => some ((0 : Int32), p16.2))) fun p1 => some ((0 : Int32), p1.2)) fun p1 => some ((0 : Int32), p1.2) := by
    have e1 : f_X12_step n m = Option.bind (f_X12_stepOther n m (nI (60 * t + r.length)) 9 w0 (nI (D.cb f.u + f.p))) fun p1 => some ((0 : Int32), p1.2) := f1.trans (ms_9 n m _ _ _)
    rw [e1, so_9, u1, bs_some, show nI (D.cb f.u + f.p) + 3 = nI (D.cb f.u + f.p) + nI 3 from rfl, u2, bs_some, f2 (by decide), ho]
    unfold f_X12_closes
    rw [b2, m_ld120 t12, bs_some, m_ld44 N6, bs_some, hm120, N3, nI_sub (by omega), m_st120 t12, bs_some, show vsz (f :: r) - N = vsz r + vln V by omega, ← em3, m_ld44 N6, bs_some, show mA m3 44 o = nI N by rw [em3, mA_SAo (by decide)]; exact N3]
  have h95 : mI m3 95 = nI h.2.1.length := by rw [em3]; exact h3
  rw [h95] at e0
  by_cases q : h.2.1.length < 2000
  · obtain ⟨c3, b3', k1, k2, k3, k4, k5, k6, k7, k8⟩ := c_thing (n := n) (o := o) hC g2 h1 q h4
    have r37 : rsz c3 7 = H := by rw [rsz_e (cd_frz k4 (by decide))]; exact h4
    have n69 : 9 + t ∉ [6] := by simp; omega
    have hT3 : TC c3 t (f.sp (f.p + (1 + 2 * nO 9)) :: r) := g3.sag (SAG.fr k4 (by simp) (by simp; omega))
    have hr9 : rsz c3 (9 + t) = sz (f :: r) := hT3.2.2.1
    obtain ⟨F, eF⟩ : ∃ F, F = sz r + f.d + f.L.length + V.length := ⟨_, rfl⟩
    have hgc : ∀ i, i < N → cRF c3 (9 + t) (F + i) = X.getD (N - 1 - i) 0 := fun i hi => by
      have := hT3.2.2.2.2.2.1.nth (k := N - 1 - i) (by show N - 1 - i < f.W.length; omega)
      have e1 : sz r + (f.sp (f.p + (1 + 2 * nO 9))).d + (f.sp (f.p + (1 + 2 * nO 9))).L.length + ((f.sp (f.p + (1 + 2 * nO 9))).W.length - 1 - (N - 1 - i)) = F + i := by
        show sz r + f.d + f.L.length + (f.W.length - 1 - (N - 1 - i)) = F + i
        omega
      rw [e1] at this
      rw [this, List.getD_eq_getElem?_getD, List.getElem?_eq_getElem (by omega)]
      show f.W[N - 1 - i] = X[N - 1 - i]
      simp only [w1]
      rw [List.getElem_append_left (by omega)]
    obtain ⟨c4, b4', j1, j2, j3, j4, j5, j6, j7⟩ := c_funL (n := n) (t := t) (u := o) (N := N) (F := F) (l3 := nI h.2.1.length) (g := fun i => X.getD (N - 1 - i) 0) hC t12 (by omega) (by rw [cd_frI k4 (by simp) (by decide)]; exact N4) (by omega) (by omega) hgc N n 0 c3 b3' (by omega) (by omega) k2 (cd_fr_refl _ _ _) (by omega)
    obtain ⟨m4, i1, i2, i3, i4, i5, i6, i7, i8⟩ := m_newThing (n := n) (o := o) (N := N) (H := H) (T := h.2.1.length) (m := m3) hn (by omega) (by omega) q h95 (by rw [em3]; exact h5)
    have me4 : mI m4 127 = nI t := by rw [md_frI i2 (by decide), em3]; exact b2
    obtain ⟨m5, y1, y2, y3, y4⟩ := m_cloL (n := n) (t := t) (u := o) (f := h.2.1.length) (N := N) (H := H) (y := vsz r + vln V) (m0 := m4) t12 N6 q (by omega) (by omega) (by omega) (by rw [md_frA i2 (by decide), em3, mA_SAo (by decide)]; exact N3) (by rw [i6, if_pos rfl]) (by rw [md_frA i2 (by decide), em3, mA_SAe]) me4 N n 0 m4 (by omega) (by omega) (md_fr_refl _ _) (fun q => by rw [if_neg (by omega)]) (fun q => by rw [if_neg (by omega)])
    have fc : cd_fr [] [6, 7] c2 c4 := cd_fr_tr k4 j4 (fun _ q => ⟨q, q⟩) (fun k hk => by simp at hk ⊢; omega)
    have f6 : ∀ j, cRF c4 6 j = cRF c3 6 j := fun j => cd_frF j4 (by decide) j
    have fm : md_fr [95, 96, 97, 98, 99, 100] m3 m5 := md_fr_tr i2 y2 (fun k hk => by simp at hk ⊢; omega)
    have g5 : ∀ g, g ≠ 99 → g ≠ 100 → ∀ i, mA m5 g i = mA m4 g i := fun g q1 q2 i => md_frA y2 (by simp; omega) i
    have hHP3 : HP c2 m3 h c1 m1 d := hHP.fr (cd_fr_refl c2 [] []) om3.1 (by decide) (by decide)
    have hw8 := u3.1.2.2.2.2.2.2.2.1
    have hw8' : MWk m2 t h.1 (r.length + 1) (D.cb f.u) (vsz r) (tsz r) (X ++ V) := by rw [← w1]; exact hw8
    obtain ⟨hP4, hl4⟩ := hHP3.add (c' := c4) (m' := m5) (T := h.2.1.length) (H := H) (N := N) (o := o) (bo := false) rfl q h4 (by omega) ⟨fun z => absurd z (by decide), fun _ => ⟨ai2, hn4, by omega⟩⟩ (by rw [rsz_e (cd_frz j4 (by decide))]; exact k5) (by rw [f6]; exact k6) (by rw [f6]; exact k7) (fun j hj => by rw [f6]; exact k8 j hj) (by omega) (fun j hj => by rw [j6 j (by omega), cd_frF k4 (by decide)]) (by rw [md_frI y2 (by decide)]; exact i3) (by rw [md_frI y2 (by decide)]; exact i4) (fun q => by rw [g5 96 (by decide) (by decide)]; exact i5 q) (fun q => by rw [g5 97 (by decide) (by decide)]; exact i6 q) (fun j hj => by rw [y3, if_neg (by omega), y4, if_neg (by omega), i7, if_neg (by omega), i8, if_neg (by omega)]; exact ⟨rfl, rfl⟩) (fun j a z => by
      have hj7 := j7 (j - H) (by omega)
      rw [r37, show H + (j - H) = j by omega, Nat.zero_add] at hj7
      have hk : N - 1 - (j - H) < X.length := by omega
      obtain ⟨n1, n2⟩ := hw8'.nth hX5 (N - 1 - (j - H)) hk
      rw [w2, show N - 1 - (N - 1 - (j - H)) = j - H by omega] at n1 n2
      have hgd : X.getD (N - 1 - (j - H)) 0 = X[N - 1 - (j - H)] := by rw [List.getD_eq_getElem?_getD, List.getElem?_eq_getElem hk]; rfl
      rw [y3, if_pos ⟨a, z⟩, y4, if_pos ⟨a, z⟩, md_frA i2 (by decide), md_frA i2 (by decide), em3, mA_SAo (by decide), mA_SAo (by decide), hj7, Nat.add_assoc, n1, n2, hgd]
      exact ⟨rfl, rfl, w3 _ (List.getElem_mem _)⟩)
    have hR3 : REST n mx d Z c2 m3 c1 m1 D h Ls K st t Fs := hR2.op (OPC.refl _ _ _) (om3.mo (by decide))
    have hR5 := hR3.heap fc fm hP4 hl4 rfl
    -- the class cuts
    have hT4 : TC c4 t (f.sp (f.p + (1 + 2 * nO 9)) :: r) := g3.sag (SAG.fr fc (by simp) (by simp; omega))
    have hR9 := j2.1 (9 + t) (by omega)
    have hz4 : rsz c4 (9 + t) = sz (f :: r) := hT4.2.2.1
    have hcut : f_X6_cut n c4 (9 + t) (nI F) = some (0, cSI c4 193 (9 + t) (nI F)) := by
      unfold f_X6_cut
      rw [if_neg (show ¬ nI F < 0 from nI_nn (by omega)), hR9.1, hz4]
      by_cases z : sz (f :: r) ≤ F
      · rw [if_pos ((nI_leI (by omega) (by omega)).mpr z), cSI_self]
        rw [hR9.1, hz4]; congr 1; omega
      · rw [if_neg (fun y => z ((nI_leI (by omega) (by omega)).mp y)), bs_some]
    have hT5 : TC (cSI c4 193 (9 + t) (nI F)) t ((f.sp (f.p + (1 + 2 * nO 9))).sW V :: r) := hT4.cutz (X := X) (V := V) w1 (by rw [eF]; rfl) (by omega)
    have hB5 : Bd C (cSI c4 193 (9 + t) (nI F)) b4' := j2.shr (by omega) (by omega)
    have hR5' := hR5.op (opc_z.mo (by simp)) (OPM.refl lm0 t m5) (c' := cSI c4 193 (9 + t) (nI F))
    have hM5 := hM3.mag (MAG.fr (t := t) fm (by decide))
    have hme5 : mI m5 127 = nI t := hR5.2.1.2.1
    have hv : VOK (h.1, h.2.1 ++ [(false, o, H)], h.2.2) (vv 3 (nI h.2.1.length)) := Or.inr (Or.inr (Or.inr (Or.inl ⟨vv_hi _ _, h.2.1.length, o, H, vv_lo _ _, by rw [List.getElem?_append_right (Nat.le_refl _), Nat.sub_self]; rfl⟩)))
    obtain ⟨c6, b6', z1, z2, z3, z4, z5⟩ := hT5.push (n := n) (v := vv 3 (nI h.2.1.length)) hC hB5 t12 (by show sz r + f.d + f.L.length + V.length < 32768; omega)
    obtain ⟨m6, q1, q2, q3⟩ := hM5.push (n := n) (x := vv 3 (nI h.2.1.length)) (s := 3) (v := nI h.2.1.length) hme5 t12 (vv_hi _ _).symm (by decide) (by rw [mv_n4 (by rw [vv_hi]; decide), vv_lo]) (by show vsz r + vln V < 9000; omega)
    have hb : ble b6' b := ble.tr z3 (ble.tr j3 k3)
    refine GO2 (f' := (f.sp (f.p + 3)).sW (vv 3 (nI h.2.1.length) :: V)) (c' := c6) (b' := b6') (m' := m6) (h' := (h.1, h.2.1 ++ [(false, o, H)], h.2.2)) (s' := none :: r0) (e' := e') hA ?_ hb ?_ z2 z4 q2 (hR5'.op (z5.mo (by simp)) (q3.mo (by decide))) hl4 (FI.mo hl4 ⟨t3.1, t3.2.1, t3.2.2⟩) x2 ⟨hv, w4.mo hl4⟩ rfl (by show f.p < f.p + 3; omega)
    · rw [hfe]
      refine c_ck ((j69_9 n t c b _ _ _ _).trans ?_) hb.1 hb.2
      rw [g1, bs_some, if_neg (by decide), ho]
      dsimp only
      rw [c_unitAt N6, bs_some]
      unfold f_X1_makeFun
      dsimp only
      rw [hcnt, bs_some]
      dsimp only
      rw [if_pos (show nI h.2.1.length < (2000 : Int32) from (nI_ltI (b := 2000) (by omega) (by decide)).mpr q), N5, k1, bs_some]
      dsimp only
      have h299 : cI c3 299 o = nI N := by rw [cd_frI k4 (by simp) (by decide)]; exact N4
      rw [Nat.one_mul, (k2.1 (9 + t) (by omega)).1, hr9, h299, nI_sub (by omega), show sz (f :: r) - N = F by omega, show f_X1_makeFun_L43 n t o (nI h.2.1.length) (nI F) n c3 b3' 0 = _ from j1, bs_some]
      dsimp only
      rw [hcut, bs_some]
      dsimp only
      rw [c_vv, bs_some]
      dsimp only
      rw [z1, bs_some]
      rw [c_ck (b := b) (c_ck (b := b3') (c_ck (b := b4') (c_ck (fb := fun (q : (Int32 × cd_S × cd_B)) => q.2.2) (b := b6') rfl (Nat.le_refl _) (Nat.le_refl _)) z3.1 z3.2) (ble.tr z3 j3).1 (ble.tr z3 j3).2) hb.1 hb.2, bs_some]
      exact c_ck rfl (Nat.le_refl _) (Nat.le_refl _)
    · rw [e0, if_neg (show ¬ nI h.2.1.length = 2000 from fun z => by have := (nI_eq (a := h.2.1.length) (b := 2000) (by omega) (by decide)).mp z; omega), i1, bs_some]
      dsimp only
      rw [show f_X12_closes_L49 n (nI o) (nI h.2.1.length) n m4 0 = _ from y1, bs_some]
      dsimp only
      rw [q1, bs_some, bs_some, bs_some]
  · have q2 : h.2.1.length = 2000 := by omega
    obtain ⟨k1, k2, k3, k4, k5⟩ := g3.fail (n := n) (x := 9) g2
    refine fail_nxt (sY := List.replicate N none) (s2 := r0) (X0 := X) (W' := V) (p1 := f.p + 3) (c2 := cSI c2 237 t 9) (b2 := b) (m2 := m3) hn hC hZ hr hA ?_ (ble.refl b) k2 ?_ hX5 k5 (oc.tr (k4.mo (by decide))) (fun m' hm' => ?_) hM3.1 (om.tr (om3.mo (by decide))) x1 w4 ?_
    · rw [hfe]
      refine c_ck ((j69_9 n t c b _ _ _ _).trans ?_) (Nat.le_refl _) (Nat.le_refl _)
      rw [g1, bs_some, if_neg (by decide), ho]
      dsimp only
      rw [c_unitAt N6, bs_some]
      unfold f_X1_makeFun
      dsimp only
      rw [hcnt, bs_some]
      dsimp only
      rw [if_neg (show ¬ nI h.2.1.length < (2000 : Int32) by rw [q2]; decide), k1, bs_some]
      rw [c_ck (fb := fun (q : (Int32 × cd_S × cd_B)) => q.2.2) (b := b) rfl (Nat.le_refl _) (Nat.le_refl _), bs_some]
      exact c_ck rfl (Nat.le_refl _) (Nat.le_refl _)
    · rw [← w1]; exact k3
    · rw [e0, if_pos (show nI h.2.1.length = 2000 by rw [q2]; rfl), hm', bs_some, bs_some, bs_some]
    · show sz r + f.d + f.L.length + (X ++ V).length < 32768
      rw [← w1]; omega
