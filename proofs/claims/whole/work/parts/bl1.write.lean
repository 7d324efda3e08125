/-! the heap changes -/
theorem GLB.heap {n mx d Z K st : Nat} {c c' c1 : cd_S} {m m' m1 : md_S} {D : PD} {h h' : HV} {Ls : List (List Int32)} (hg : GLB n mx d Z c m c1 m1 D h Ls K st) (hc : cd_fr [] [6, 7] c c') (hm : md_fr [95, 96, 97, 98, 99, 100] m m') (hh : HP c' m' h' c1 m1 d) (h1' : h'.1 = h.1) (h2' : h'.2.2 = h.2.2) : GLB n mx d Z c' m' c1 m1 D h' Ls K st := by
  obtain ⟨h1, ⟨h2, h3, h4⟩, ⟨h5, h6, h7, h8, h9, h10, h11⟩, ⟨h12, h13, h14⟩, ⟨h15, h16⟩, ⟨h17, h18⟩, h19, h20, h21, h22⟩ := hg
  have cI' : ∀ f, f ≠ 193 → cI c' f 0 = cI c f 0 := fun f b => cd_frI hc (by simp) b 0
  have mI' : ∀ f, f ∉ [95, 96, 97, 98, 99, 100] → mI m' f = mI m f := fun f a => md_frI hm a
  refine ⟨h1.to (SK.fr hc hm (by simp) (by decide) (by decide)), ⟨h2, ?_, ?_⟩, ⟨?_, ?_, ?_, ?_, h9, h10, ?_⟩, ⟨?_, ?_, h14.fr hc hm (by simp) (by decide) (by decide)⟩, ⟨?_, ?_⟩, ⟨h17.fr hc hm (by simp) (by decide) (by decide), by rw [h2']; exact h18.1, h18.2⟩, fun q => ?_, hh, ?_, ?_⟩
  · rw [cI' 40 (by decide)]; exact h3
  · rw [mI' 105 (by decide)]; exact h4
  · rw [cI' 41 (by decide)]; exact h5
  · rw [mI' 89 (by decide)]; exact h6
  · rw [cI' 42 (by decide)]; exact h7
  · rw [mI' 90 (by decide)]; exact h8
  · rw [mI' 101 (by decide)]; exact h11
  · rw [cI' 45 (by decide), mI' 93 (by decide)]; exact h12
  · rw [cI' 46 (by decide), mI' 94 (by decide)]; exact h13
  · rw [cI' 49 (by decide), h1']; exact h15
  · rw [mI' 87 (by decide), h1']; exact h16
  · rw [h1'] at q
    rw [h2']
    exact ⟨(h19 q).1.fr hc hm (by decide) (by decide), (h19 q).2⟩
  · rw [cI' 44 (by decide)]; exact h21
  · rw [mI' 129 (by decide)]; exact h22
theorem REST.heap {n mx d Z K st t : Nat} {c c' c1 : cd_S} {m m' m1 : md_S} {D : PD} {h h' : HV} {Ls : List (List Int32)} {Fs : Nat → List FR} (hr : REST n mx d Z c m c1 m1 D h Ls K st t Fs) (hc : cd_fr [] [6, 7] c c') (hm : md_fr [95, 96, 97, 98, 99, 100] m m') (hh : HP c' m' h' c1 m1 d) (hl : HVle h h') (h2' : h'.2.2 = h.2.2) : REST n mx d Z c' m' c1 m1 D h' Ls K st t Fs := by
  obtain ⟨h1, ⟨a1, a2, a3, a4, a5, a6, a7⟩, h3⟩ := hr
  refine ⟨h1.heap hc hm hh hl.1 h2', ⟨a1, ?_, ?_, ?_, a5.fr hc hm (by simp) (by decide), ?_, ?_⟩, fun x hx hxt => (h3 x hx hxt).sag (SAG.fr hc (by simp) (by simp; omega)) (MAG.fr hm (by decide)) hl⟩
  · rw [md_frI hm (by decide)]; exact a2
  · rw [md_frI hm (by decide)]; exact a3
  · rw [cd_frI hc (by simp) (by decide)]; exact a4
  · rw [md_frA hm (by decide)]; exact a6
  · rw [md_frA hm (by decide)]; exact a7
/-- a step that goes on, and changes the heap -/
theorem GO2 {n mx d Z K st t k : Nat} {C : Nat × Nat} {c c1 c' : cd_S} {b b' : cd_B} {m m1 m' : md_S} {D : PD} {h h' : HV} {Ls : List (List Int32)} {Fs : Nat → List FR} {f f' : FR} {r : List FR} {s s' : List SH} {e e' : EN} (hA : AT c m m1 D h d t f r s e k) (q1 : f_X1_step n c b t = some (0, c', b')) (q2 : ble b' b) (q3 : f_X12_step n m = some (0, m')) (q4 : Bd C c' b') (q5 : TC c' t (f' :: r)) (q6 : TM m' t h'.1 D.cb (f' :: r)) (q7 : REST n mx d Z c' m' c1 m1 D h' Ls K st t Fs) (hl : HVle h h') (q9 : FI h' m1 D f') (q10 : TPL m1 (D.Λ f.u) (D.L f.u) (D.lo f.u) (D.P f.u) (D.E f.u) f'.p s' e') (q11 : WT h' (D.P f.u) s' f'.W) (hu : f'.u = f.u) (hp : f.p < f'.p) : NXT n mx d Z C c b m c1 m1 D h K st t Fs (f :: r) := by
  refine ⟨1, 0, c', b', m', by omega, ⟨(by decide : (0 : Int32) ≠ 1), _, q1, q2, rfl⟩, q3, Or.inl ⟨rfl, h', Ls, st, f' :: r, hl, ⟨q7.mo (by omega), q4, q5, q6, ⟨q9, ⟨s', e', ?_, ?_⟩, hA.2.2.2.1.mo hl⟩⟩, by simp, ?_⟩⟩
  · rw [hu, List.nil_append]; exact q10
  · rw [hu]; exact q11
  · have := rm_lt hA.1 hp
    have h2 : μF D (f' :: r) = rm D f'.u f'.p + 1 + μF D r := rfl
    have h3 : μF D (f :: r) = rm D f.u f.p + 1 + μF D r := rfl
    rw [hu] at h2
    unfold μ; omega
theorem i_write {n mx d Z K st t : Nat} {C : Nat × Nat} {c c1 : cd_S} {b : cd_B} {m m1 : md_S} {D : PD} {h : HV} {Ls : List (List Int32)} {Fs : Nat → List FR} {f : FR} {r : List FR} {s : List SH} {e : EN} (hn : 40000 ≤ n) (hC : BC C) (hZ : Z + 1 < 2 ^ 31) (hr : RR n mx d Z C c b m c1 m1 D h Ls K st t Fs (f :: r)) (hA : AT c m m1 D h d t f r s e 6) : NXT n mx d Z C c b m c1 m1 D h K st t Fs (f :: r) := by
  obtain ⟨t1, t2, t3, t4, t5, ⟨t6, t7⟩, t8, t9, t10, ⟨t11, t12, t13, t14⟩, ⟨l1, l2, l3, l4, l5⟩⟩ := id hA
  obtain ⟨⟨hG, ⟨a1, a2, a3, a4, -⟩, -⟩, hB, hTC, hTM, -⟩ := id hr
  obtain ⟨ai, ai1, ai2⟩ := t8.2.2.2.2.1 (Or.inr (Or.inl t6))
  have hb60 := t13.2.2.2.2
  have ho : opd (D.lo f.u) (D.P f.u) e = ai := by rw [opd_k t6 (by decide) (by decide) (by decide) (by decide) (by decide) (by decide), ai1, oN_nI (by omega)]
  obtain ⟨r0, e', x1, x2⟩ := t1.nx t5.1 t6 (by decide) (by decide) (by decide) (by decide) (by decide)
  rw [show pops m1 e = 2 by unfold pops; rw [t6]; rfl] at x1
  have x1 : s = none :: none :: r0 := x1
  rw [show psh e = [none] by unfold psh; rw [t6]; rfl] at x2
  rw [x1] at t2
  obtain ⟨v, V1, w1, w2, w3⟩ := WT.n t2
  obtain ⟨w, V, w4, w5, w6⟩ := WT.n w3
  rw [w4] at w1
  have hzz : sz (f :: r) = sz r + f.d + f.L.length + f.W.length := rfl
  have hvz : vsz (f :: r) = vsz r + vln f.W := rfl
  have hlen : f.W.length = V.length + 2 := by rw [w1]; rfl
  have hvln : vln V ≤ vln f.W := by rw [w1]; show vln V ≤ (if vS v = 5 then 0 else 1) + ((if vS w = 5 then 0 else 1) + vln V); omega
  obtain ⟨c2, g1, g2, g3, g4⟩ := hTC.step (n := n) (j := nO 6) hB
  obtain ⟨cx, p1, p2, p3, p4⟩ := g3.pop (n := n) g2 t12 w1
  obtain ⟨c3, y1, y2, y3, y4⟩ := p3.pop (n := n) (v := w) (V := V) p2 t12 rfl
  obtain ⟨w0, f1, f2, -⟩ := m_fetch (n := n) a2 t12 hTM t5 t10 t1 t6 t7 t9
  obtain ⟨m2, u1, u2, u3, u4⟩ := hTM.step t12 (j := 3)
  have hme2 : mI m2 127 = nI t := by rw [md_frI u4.1 (by decide)]; exact a2
  obtain ⟨mx', v1, v2, v3, v4⟩ := u3.pop (n := n) hme2 t12 w1 w2.n5
  have hmex : mI mx' 127 = nI t := by rw [md_frI v4.1 (by decide)]; exact hme2
  obtain ⟨m3, z1, z2, z3, z4⟩ := v3.pop (n := n) (x := w) (V := V) hmex t12 rfl w5.n5
  have oc : OPC lc0 t c c3 := ((g4.mo (by decide)).tr (p4.mo (by simp))).tr (y4.mo (by simp))
  have om : OPM lm0 t m m3 := ((u4.mo (by decide)).tr (v4.mo (by decide))).tr (z4.mo (by decide))
  have hR3 := hr.1.op oc om
  obtain ⟨hG3, ⟨b1, b2, b3, b4, b5, b6, b7⟩, hO3⟩ := id hR3
  have hfe := c_fetch (n := n) hB hTC t11 t5 t1 t6 t7 t9
  obtain ⟨nx, ny, n1, n2, n3⟩ := hG3.1.nam ai2
  have n2' : mldL m2 61 (nI ai) = some ny := by
    have e1 : mL m3 61 ai = ny := Option.some.inj ((m_ld61 (by omega)).symm.trans n2)
    rw [m_ld61 (by omega), ← e1, md_frL z4.1 (by decide), md_frL v4.1 (by decide)]
  have hstep : f_X1_step n c b t = cd_ck (fun (q : (Int32 × cd_S × cd_B)) => q.2.2) b (Option.bind (cd_ck (fun (q : (Int32 × cd_S × cd_B)) => q.2.2) b (if vS w = (2 : Int32) then (Option.bind (f_X1_thingOf n c3 w) fun p4 => Option.bind (f_X2_nameAt n p4.2 (nI ai)) fun p5 => Option.bind (f_X2_fieldSlot n p5.2 (p4.1) (p5.1)) fun p6 => if p6.1 = ((-1) : Int32) then (Option.bind (f_X1_fail n p6.2 t (2 : Int32)) fun p11 => some ((p11.1, p11.2, b))) else (Option.bind (f_X1_slotsOf n p6.2 w) fun p7 => Option.bind (f_X6_set n p7.2 7 ((p7.1 + p6.1)) v) fun p8 => Option.bind (f_X1_push n p8.2 b t v) fun p9 => cd_ck (fun (q : (Int32 × cd_S × cd_B)) => q.2.2) (p9.2.2) <| some ((p9.1, p9.2.1, p9.2.2)))) else (Option.bind (f_X1_fail n c3 t (3 : Int32)) fun p12 => some ((p12.1, p12.2, b))))) fun p20 => cd_ck (fun (q : (Int32 × cd_S × cd_B)) => q.2.2) (p20.2.2) <| some ((p20.1, p20.2.1, p20.2.2))) := by
    rw [hfe]
    congr 1
    refine (j69_6 n t c b _ _ _ _).trans ?_
    rw [g1, bs_some, if_neg (by decide), ho]
    unfold f_X1_writeField
    dsimp only
    rw [p1, bs_some]
    dsimp only
    rw [y1, bs_some]
    dsimp only
    rw [c_vS, bs_some]
  have hmod : ∀ Y, (if vS w = (2 : Int32) then (Option.bind (mldA m3 96 (mv h.1 w)) fun v5 => Option.bind (f_X12_fieldOf n m3 v5 ny) fun p6 => if p6.1 = ((-1) : Int32) then (Option.bind (f_X12_failure n p6.2 (2 : Int32)) fun p10 => some ((0 : Int32), p10.2)) else (Option.bind (mldA p6.2 97 (mv h.1 w)) fun v7 => (Option.bind (mstA p6.2 99 ((v7 + p6.1)) (vS v)) fun σ8 => Option.bind (mstA σ8 100 ((v7 + p6.1)) (mv h.1 v)) fun σ9 => f_X12_stepField_J106 n σ9 ((v7 + p6.1))))) else (Option.bind (f_X12_failure n m3 (3 : Int32)) fun p11 => some ((0 : Int32), p11.2))) = some (0, Y) → f_X12_step n m = some (0, Y) := fun Y hY => by
    have e0 : f_X12_step n m = Option.bind (f_X12_stepOther n m (nI (60 * t + r.length)) 6 w0 (nI (D.cb f.u + f.p))) fun p1 => some ((0 : Int32), p1.2) := f1.trans (ms_6 n m _ _ _)
    rw [e0, so_6]
    unfold f_X12_stepOther_J182 f_X12_stepField f_X12_stepField_J24
    rw [u1, bs_some, show nI (D.cb f.u + f.p) + 3 = nI (D.cb f.u + f.p) + nI 3 from rfl, u2, bs_some, f2 (by decide), ho, n2', bs_some, if_pos (show (6 : Int32) = 6 from rfl), v1, bs_some]
    dsimp only
    rw [z1, bs_some]
    dsimp only
    rw [z2, v2]
    simp only [if_true]
    rw [hY, bs_some, bs_some]
  have fl : ∀ (x : Int32), f_X1_step n c b t = some (2, cSI c3 237 t x, b) → (∀ m', f_X12_failure n m3 x = some (0, m') → f_X12_step n m = some (0, m')) → NXT n mx d Z C c b m c1 m1 D h K st t Fs (f :: r) := fun x hc hm => by
    obtain ⟨k1, k2, k3, k4, k5⟩ := y3.fail (n := n) (x := x) y2
    exact fail_nxt (sY := [none, none]) (s2 := r0) (X0 := []) (W' := V) (p1 := f.p + 3) (c2 := cSI c3 237 t x) (b2 := b) (m2 := m3) hn hC hZ hr hA hc (ble.refl b) k2 k3 (by simp) k5 (oc.tr (k4.mo (by decide))) hm z3.1 om x1 w6 (by show sz r + f.d + f.L.length + V.length < 32768; omega)
  have ck2 : ∀ (y : Int32) (c9 : cd_S), cd_ck (fun (q : (Int32 × cd_S × cd_B)) => q.2.2) b (Option.bind (cd_ck (fun (q : (Int32 × cd_S × cd_B)) => q.2.2) b (some (y, c9, b))) fun p48 => cd_ck (fun (q : (Int32 × cd_S × cd_B)) => q.2.2) (p48.2.2) <| some ((p48.1, p48.2.1, p48.2.2))) = some (y, c9, b) := fun y c9 => by
    rw [c_ck (fb := fun (q : (Int32 × cd_S × cd_B)) => q.2.2) (b := b) (r := some (y, c9, b)) rfl (Nat.le_refl _) (Nat.le_refl _), bs_some]
    exact c_ck (c_ck rfl (Nat.le_refl _) (Nat.le_refl _)) (Nat.le_refl _) (Nat.le_refl _)
  by_cases q : vS w = 2
  · have hv0 : mv h.1 w = w.toInt32 := mv_n4 (by rw [q]; decide)
    rw [if_pos q] at hstep
    rw [if_pos q] at hmod
    obtain ⟨i, o, a, i1, i2⟩ : ∃ i o a, w.toInt32 = nI i ∧ h.2.1[i]? = some (true, o, a) := by
      rcases w5 with z | z | ⟨-, z⟩ | ⟨z, -⟩ | ⟨z, -⟩
      · rw [z] at q; exact absurd q (by decide)
      · rw [z] at q; exact absurd q (by decide)
      · exact z
      · rw [z] at q; exact absurd q (by decide)
      · rw [z] at q; exact absurd q (by decide)
    have hHP := hG3.2.2.2.2.2.2.2.1
    obtain ⟨o1, o2, o3, o4, o5⟩ := hHP.ob (n := n) y2 i1 i2
    obtain ⟨H, ⟨h1, h2, h3, h4, h5, h6⟩, h7, h8⟩ := hHP
    obtain ⟨o6, o7⟩ := (h7 i true o a i2).2.2.2.2.1 rfl
    rw [o2, bs_some] at hstep
    dsimp only at hstep
    rw [n1, bs_some] at hstep
    dsimp only at hstep
    rw [hv0, i1, o4, bs_some] at hmod
    rcases fld_ok2 (n := n) (by omega) hG3.1.md o6 n3 with ⟨sl, ⟨s1, s2⟩, s3, s4⟩ | ⟨s3, s4⟩
    · rw [hG3.1.ft] at s2
      rw [s3, bs_some] at hstep
      dsimp only at hstep
      rw [if_neg (nI_nem1 (by omega)), o3, bs_some] at hstep
      dsimp only at hstep
      rw [nI_add, c_set (y2.1 7 (by omega)) (by omega), bs_some] at hstep
      dsimp only at hstep
      rw [s4, bs_some] at hmod
      dsimp only at hmod
      rw [if_neg (nI_nem1 (by omega)), o5, bs_some] at hmod
      unfold f_X12_stepField_J106 at hmod
      rw [nI_add, m_st99 (by omega), bs_some, m_st100 (by omega), bs_some, m_ld99 (by omega), bs_some, m_ld100 (by omega), bs_some, mA_SAo (by decide), mA_SAe, mA_SAe] at hmod
      -- the new states
      have fc4 : cd_fr [] [6, 7] c3 (cSF c3 7 (a + sl) v) := cd_fr_SF (cd_fr_refl _ _ _) (by simp) _ _
      obtain ⟨m4, em4⟩ : ∃ m4, m4 = mSA (mSA m3 99 (a + sl) (vS v)) 100 (a + sl) (mv h.1 v) := ⟨_, rfl⟩
      have fm4 : md_fr [95, 96, 97, 98, 99, 100] m3 m4 := by rw [em4]; exact md_fr_SA (md_fr_SA (md_fr_refl _ _) (by simp) _ _) (by simp) _ _
      have hHP4 : HP (cSF c3 7 (a + sl) v) m4 h c1 m1 d := by
        refine ⟨H, ⟨h1, h2, by rw [em4]; exact h3, h4, by rw [em4]; exact h5, h6⟩, fun i' bo o' a' hi' => ?_, fun j hj => ?_⟩
        · rw [cF_SF, if_neg (by decide), cF_SF, if_neg (by decide), em4, mA_SAo (by decide), mA_SAo (by decide), mA_SAo (by decide), mA_SAo (by decide)]
          exact h7 i' bo o' a' hi'
        · rw [cF_SF, if_pos rfl, em4, mA_SAo (by decide), mA_SA, if_pos rfl, mA_SA, if_pos rfl, mA_SAo (by decide)]
          by_cases qj : j = a + sl
          · rw [if_pos qj, if_pos qj, if_pos qj]; exact ⟨rfl, rfl, w2⟩
          · rw [if_neg qj, if_neg qj, if_neg qj]; exact h8 j hj
      have hR4 := hR3.heap fc4 fm4 hHP4 (HVle.refl h) rfl
      have hT4 : TC (cSF c3 7 (a + sl) v) t ((f.sp (f.p + (1 + 2 * nO 6))).sW V :: r) := y3.sag (SAG.fr fc4 (by simp) (by simp; omega))
      have hM4 := z3.mag (MAG.fr (t := t) fm4 (by decide))
      have hB4 : Bd C (cSF c3 7 (a + sl) v) b := y2.SF _ _ _
      have hme4 : mI m4 127 = nI t := hR4.2.1.2.1
      obtain ⟨c5, b5', k1, k2, k3, k4, k5⟩ := hT4.push (n := n) (v := v) hC hB4 t12 (by show sz r + f.d + f.L.length + V.length < 32768; omega)
      obtain ⟨m5, j1, j2, j3⟩ := hM4.push (n := n) (x := v) hme4 t12 rfl w2.n5 rfl (by show vsz r + vln V < 9000; omega)
      refine GO2 (f' := (f.sp (f.p + 3)).sW (v :: V)) (c' := c5) (b' := b5') (m' := m5) (h' := h) (s' := none :: r0) (e' := e') hA ?_ k3 (hmod m5 ?_) k2 k4 j2 (hR4.op (k5.mo (by simp)) (j3.mo (by decide))) (HVle.refl h) ⟨t3.1, t3.2.1, t3.2.2⟩ x2 ⟨w2, w6⟩ rfl (by show f.p < f.p + 3; omega)
      · rw [hstep, k1, bs_some]
        rw [c_ck (b := b) (c_ck (fb := fun (q : (Int32 × cd_S × cd_B)) => q.2.2) (b := b5') rfl (Nat.le_refl _) (Nat.le_refl _)) k3.1 k3.2, bs_some]
        exact c_ck (c_ck rfl (Nat.le_refl _) (Nat.le_refl _)) k3.1 k3.2
      · rw [← em4, j1, bs_some]
    · rw [s3, bs_some] at hstep
      dsimp only at hstep
      rw [if_pos rfl] at hstep
      rw [s4, bs_some] at hmod
      dsimp only at hmod
      rw [if_pos rfl] at hmod
      refine fl 2 ?_ (fun m' hm' => hmod m' ?_)
      · rw [hstep]; exact ck2 2 _
      · rw [hm', bs_some]
  · rw [if_neg q] at hstep hmod
    refine fl 3 ?_ (fun m' hm' => hmod m' ?_)
    · rw [hstep]; exact ck2 2 _
    · rw [hm', bs_some]
