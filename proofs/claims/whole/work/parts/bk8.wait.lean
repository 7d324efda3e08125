/-! a thread waits for another -/
theorem THD.st {c : cd_S} {m m1 : md_S} {D : PD} {h : HV} {K t : Nat} {F : List FR} (hd : THD c m m1 D h K t F) : cI c 234 t = mA m 106 t ∧ (mA m 106 t = 0 ∨ (mA m 106 t = 1 ∧ VOK h (cJ c 236 t) ∧ vS (cJ c 236 t) = mA m 109 t ∧ mA m 110 t = mv h.1 (cJ c 236 t)) ∨ (mA m 106 t = 2 ∧ (cJ c 236 t).toInt32 = mA m 110 t)) := by
  obtain ⟨h1, ⟨b1, b2, b3, b4, b5⟩, h3, h4⟩ := hd
  refine ⟨b1, ?_⟩
  rcases b5 with ⟨q, -⟩ | ⟨q, q2, -⟩ | ⟨q, q2, q3⟩
  · exact Or.inl q
  · exact Or.inr (Or.inl ⟨q, (h3 q).1, q2, (h3 q).2⟩)
  · exact Or.inr (Or.inr ⟨q, q3⟩)
theorem i_wait {n mx d Z K st t : Nat} {C : Nat × Nat} {c c1 : cd_S} {b : cd_B} {m m1 : md_S} {D : PD} {h : HV} {Ls : List (List Int32)} {Fs : Nat → List FR} {f : FR} {r : List FR} {s : List SH} {e : EN} (hn : 40000 ≤ n) (hC : BC C) (hZ : Z + 1 < 2 ^ 31) (hr : RR n mx d Z C c b m c1 m1 D h Ls K st t Fs (f :: r)) (hA : AT c m m1 D h d t f r s e 24) : NXT n mx d Z C c b m c1 m1 D h K st t Fs (f :: r) := by
  obtain ⟨t1, t2, t3, t4, t5, ⟨t6, t7⟩, t8, t9, t10, ⟨t11, t12, t13, t14⟩, ⟨l1, l2, l3, l4, l5⟩⟩ := id hA
  obtain ⟨⟨hG, ⟨a1, a2, a3, a4, -⟩, -⟩, hB, hTC, hTM, -⟩ := id hr
  obtain ⟨r0, e', x1, x2⟩ := t1.nx t5.1 t6 (by decide) (by decide) (by decide) (by decide) (by decide)
  rw [show pops m1 e = 1 by unfold pops; rw [t6]; rfl] at x1
  have x1 : s = none :: r0 := x1
  rw [show psh e = [none] by unfold psh; rw [t6]; rfl] at x2
  rw [x1] at t2
  obtain ⟨v, V, w1, w2, w3⟩ := WT.n t2
  have hzz : sz (f :: r) = sz r + f.d + f.L.length + f.W.length := rfl
  have hvz : vsz (f :: r) = vsz r + vln f.W := rfl
  have hlen : f.W.length = V.length + 1 := by rw [w1]; rfl
  have hvln : vln V ≤ vln f.W := by rw [w1]; show vln V ≤ (if vS v = 5 then 0 else 1) + vln V; omega
  obtain ⟨c2, g1, g2, g3, g4⟩ := hTC.step (n := n) (j := nO 24) hB
  obtain ⟨c3, p1, p2, p3, p4⟩ := g3.pop (n := n) g2 t12 w1
  obtain ⟨w0, f1, f2, -⟩ := m_fetch (n := n) a2 t12 hTM t5 t10 t1 t6 t7 t9
  obtain ⟨m2, u1, u2, u3, u4⟩ := hTM.step t12 (j := 1)
  have hme2 : mI m2 127 = nI t := by rw [md_frI u4.1 (by decide)]; exact a2
  obtain ⟨m3, v1, v2, v3, v4⟩ := u3.pop (n := n) hme2 t12 w1 w2.n5
  have oc : OPC lc0 t c c3 := (g4.mo (by decide)).tr (p4.mo (by simp))
  have om : OPM lm0 t m m3 := (u4.mo (by decide)).tr (v4.mo (by decide))
  have hR3 := hr.1.op oc om
  obtain ⟨hG3, ⟨b1, b2, b3, b4, b5, b6, b7⟩, hO3⟩ := id hR3
  have h8 := hG3.2.1.1
  have hfe := c_fetch (n := n) hB hTC t11 t5 t1 t6 t7 t9
  have hstep : f_X1_step n c b t = cd_ck (fun (q : (Int32 × cd_S × cd_B)) => q.2.2) b (Option.bind (cd_ck (fun (q : (Int32 × cd_S × cd_B)) => q.2.2) b (if vS v = 0 then (if v.toInt32 < 0 then (f_X1_await_J48 n t c3 b) else (if nI K ≤ v.toInt32 then (f_X1_await_J48 n t c3 b) else (if v.toInt32 = nI t then (f_X1_await_J48 n t c3 b) else (Option.bind (f_X1_hasEnded n c3 (v.toInt32)) fun p4 => if p4.1 = 0 then (Option.bind (some (cSI p4.2 235 t (v.toInt32))) fun σ5 => some (((1 : Int32), σ5, b))) else (Option.bind (f_X1_strandAt n p4.2 (v.toInt32)) fun p6 => Option.bind (f_X1_takeOutcome n p6.2 b t (p6.1)) fun p7 => cd_ck (fun (q : (Int32 × cd_S × cd_B)) => q.2.2) (p7.2.2) <| some ((p7.1, p7.2.1, p7.2.2))))))) else (Option.bind (f_X1_fail n c3 t (5 : Int32)) fun p9 => some ((p9.1, p9.2, b))))) fun p48 => cd_ck (fun (q : (Int32 × cd_S × cd_B)) => q.2.2) (p48.2.2) <| some ((p48.1, p48.2.1, p48.2.2))) := by
    rw [hfe]
    congr 1
    refine (j69_24 n t c b _ _ _ _).trans ?_
    rw [g1, bs_some]
    unfold f_X1_await
    dsimp only
    rw [p1, bs_some]
    dsimp only
    rw [c_vS, bs_some]
    dsimp only
    rw [hG3.2.1.2.1, b4]
  have hmod : f_X12_step n m = Option.bind (Option.bind (Option.bind (if vS v = 0 then (Option.bind (f_X12_in n m3 (((mv h.1 v).toInt64)) (0 : Int64) ((((mI m3 105) - 1).toInt64))) fun p3 => if p3.1 = 0 then (f_X12_stepWord_J99 n p3.2) else (if (mv h.1 v) = (mI p3.2 127) then (f_X12_stepWord_J99 n p3.2) else (Option.bind (mldA p3.2 106 (mv h.1 v)) fun v4 => if v4 = 0 then (Option.bind (mstA p3.2 107 ((mI p3.2 127)) (mv h.1 v)) fun σ5 => Option.bind (some (mSI σ5 128 0)) fun σ6 => some ((0 : Int32), σ6)) else (Option.bind (f_X12_hasWaited n p3.2 (mv h.1 v)) fun p7 => some ((0 : Int32), p7.2))))) else (Option.bind (f_X12_failure n m3 (5 : Int32)) fun p12 => some ((0 : Int32), p12.2))) fun p3 => some ((0 : Int32), p3.2)) fun p1 => some ((0 : Int32), p1.2)) fun p1 => some ((0 : Int32), p1.2) := by
    have e0 : f_X12_step n m = Option.bind (f_X12_stepOther n m (nI (60 * t + r.length)) 24 w0 (nI (D.cb f.u + f.p))) fun p1 => some ((0 : Int32), p1.2) := f1.trans (ms_24 n m _ _ _)
    rw [e0, so_24]
    unfold f_X12_stepOther_J350 f_X12_stepWord
    rw [u1, bs_some, show nI (D.cb f.u + f.p) + 1 = nI (D.cb f.u + f.p) + nI 1 from rfl, u2, bs_some, v1, bs_some]
    dsimp only
    rw [if_neg (show ¬ (24 : Int32) = 23 by decide), v2]
    by_cases q : vS v = 0
    · rw [if_pos q, if_pos q, if_neg (show ¬ (24 : Int32) = 21 by decide), if_neg (show ¬ (24 : Int32) = 22 by decide)]
      generalize (Option.bind (f_X12_in n m3 (mv h.1 v).toInt64 0 (mI m3 105 - 1).toInt64) _ : Option (Int32 × md_S)) = y
      cases y <;> rfl
    · rw [if_neg q, if_neg q]
      generalize (Option.bind (f_X12_failure n m3 5) _ : Option (Int32 × md_S)) = y
      cases y <;> rfl
  -- a failure
  have fl : ∀ (x : Int32), f_X1_step n c b t = some (2, cSI c3 237 t x, b) → (∀ m', f_X12_failure n m3 x = some (0, m') → f_X12_step n m = some (0, m')) → NXT n mx d Z C c b m c1 m1 D h K st t Fs (f :: r) := fun x hc hm => by
    obtain ⟨k1, k2, k3, k4, k5⟩ := p3.fail (n := n) (x := x) p2
    exact fail_nxt (sY := [none]) (s2 := r0) (X0 := []) (W' := V) (p1 := f.p + 1) (c2 := cSI c3 237 t x) (b2 := b) (m2 := m3) hn hC hZ hr hA hc (ble.refl b) k2 k3 (by simp) k5 (oc.tr (k4.mo (by decide))) hm v3.1 om x1 w3 (by show sz r + f.d + f.L.length + V.length < 32768; omega)
  have ck2 : ∀ (y : Int32) (c9 : cd_S), cd_ck (fun (q : (Int32 × cd_S × cd_B)) => q.2.2) b (Option.bind (cd_ck (fun (q : (Int32 × cd_S × cd_B)) => q.2.2) b (some (y, c9, b))) fun p48 => cd_ck (fun (q : (Int32 × cd_S × cd_B)) => q.2.2) (p48.2.2) <| some ((p48.1, p48.2.1, p48.2.2))) = some (y, c9, b) := fun y c9 => by
    rw [c_ck (fb := fun (q : (Int32 × cd_S × cd_B)) => q.2.2) (b := b) (r := some (y, c9, b)) rfl (Nat.le_refl _) (Nat.le_refl _), bs_some]
    exact c_ck (c_ck rfl (Nat.le_refl _) (Nat.le_refl _)) (Nat.le_refl _) (Nat.le_refl _)
  by_cases q : vS v = 0
  · have hv0 : mv h.1 v = v.toInt32 := mv_n4 (by rw [q]; decide)
    rw [if_pos q] at hstep hmod
    rw [hv0, hG3.2.1.2.2] at hmod
    rcases rng_c (a := v.toInt32) (K := K) (by omega) with ⟨y, s1, s2, s3⟩ | ⟨s1, s2⟩
    · rcases rng_m (n := n) (s := m3) (a := v.toInt32) (K := K) (by omega) with ⟨y', q1, q2⟩ | ⟨q1, q2⟩
      · obtain ⟨s4, s5⟩ := s1
        rw [if_neg s2, if_neg s3] at hstep
        rw [q2, bs_some] at hmod
        dsimp only at hmod
        rw [if_neg ne10, b2] at hmod
        by_cases qt : y = t
        · have hvt : v.toInt32 = nI t := by rw [s4, qt]
          rw [if_pos hvt] at hstep hmod
          refine fl 8 ?_ (fun m' hm' => ?_)
          · rw [hstep]
            exact ck2 2 _
          · rw [hmod]
            unfold f_X12_stepWord_J99
            rw [hm', bs_some, bs_some, bs_some, bs_some]
        · have hvt : ¬ v.toInt32 = nI t := by rw [s4]; exact fun z => qt ((nI_eq (by omega) (by omega)).mp z)
          rw [if_neg hvt] at hstep hmod
          obtain ⟨z1, z2⟩ := (hO3 y s5 qt).st
          have hy8 : y < 8 := by omega
          unfold f_X1_hasEnded at hstep
          rw [s4, c_strandAt hy8, bs_some] at hstep
          dsimp only at hstep
          rw [z1] at hstep
          rw [s4, m_ld106 hy8, bs_some] at hmod
          rcases z2 with z2 | ⟨z2, z3, z4, z5⟩ | ⟨z2, z3⟩
          · -- it waits
            rw [if_pos z2, bs_some] at hstep
            dsimp only at hstep
            rw [if_pos rfl, bs_some] at hstep
            rw [if_pos z2, m_st107 t12, bs_some, bs_some, bs_some, bs_some, bs_some] at hmod
            have oc4 : OPC [225, 235] t c (cSI c3 235 t (nI y)) := ((g4.mo (by simp)).tr (p4.mo (by simp))).tr ((opc_I (by decide)).mo (by simp))
            have om4 : OPM [107] t m3 (mSA m3 107 t (nI y)) := opm_1 (by decide)
            have fm : md_fr [107, 128] m3 (mSI (mSA m3 107 t (nI y)) 128 0) := md_fr_SI (md_fr_mono om4.1 (by decide)) (by simp) _
            have fc : cd_fr [235] [9 + t] c3 (cSI c3 235 t (nI y)) := cd_fr_SI (cd_fr_refl _ _ _) (by simp) (by decide) _ _
            have gm : ∀ x, MAG (mSA m3 107 t (nI y)) (mSI (mSA m3 107 t (nI y)) 128 0) x := fun x => MAG.fr (md_fr_SI (md_fr_refl _ [128]) (by simp) 0) (by decide)
            have oc5 : OPC [235] t c3 (cSI c3 235 t (nI y)) := opc_I (by decide)
            refine ⟨1, 1, cSI c3 235 t (nI y), b, mSI (mSA m3 107 t (nI y)) 128 0, by omega, ⟨(by decide : (0 : Int32) ≠ 1), _, ?_, ble.refl b, rfl⟩, hmod, Or.inr ⟨rfl, Or.inr ⟨h, Ls, K, st, fun x => if x = t then ((f.sp (f.p + 1)).sW V) :: r else Fs x, HVle.refl h, ⟨?_, p2.SI (by decide) _ _, mI_SIe, fun x hx => ?_⟩, fun x _ hx => if_neg hx, Or.inl ⟨rfl, ?_⟩⟩⟩⟩
            · show f_X1_step n c b t = _
              rw [hstep]; exact ck2 1 _
            · exact (hG3.mo (Nat.le_add_right Z 2)).fr3 fc fm (by decide) (fun x hx => by simp at hx; omega) (by decide) (by decide) (by decide) ((hG3.2.2.2.1.2.2.mo (Nat.le_add_right Z 2)).fr fc fm (by decide) (by simp; omega) (by decide))
            · by_cases qx : x = t
              · show THD _ _ m1 D h K x (if x = t then ((f.sp (f.p + 1)).sW V) :: r else Fs x)
                rw [if_pos qx, qx]
                obtain ⟨j1, j2, j3, j4, j5⟩ := b5
                have m107 : mA (mSI (mSA m3 107 t (nI y)) 128 0) 107 t = nI y := by rw [mA_SI, mA_SAe]
                have mo : ∀ g, g ≠ 107 → ∀ i, mA (mSI (mSA m3 107 t (nI y)) 128 0) g i = mA m3 g i := fun g hg i => by rw [mA_SI, mA_SAo hg]
                have co : ∀ g, g ≠ 235 → ∀ i, cI (cSI c3 235 t (nI y)) g i = cI c3 g i := fun g hg i => cI_SIo hg
                refine ⟨by rw [co 231 (by decide)]; exact b4, ⟨?_, ?_, ?_, Or.inr ⟨y, s5, m107⟩, ?_⟩, fun z => ?_, fun z => ⟨by simp, ?_, ?_, ?_⟩⟩
                · rw [co 234 (by decide), mo 106 (by decide)]; exact j1
                · rw [co 233 (by decide), mo 108 (by decide)]; exact j2
                · rw [m107]; exact cI_SIe
                · rw [mo 106 (by decide), mo 109 (by decide), mo 110 (by decide)]; exact j5
                · rw [mo 106 (by decide), b6] at z; exact absurd z (by decide)
                · obtain ⟨i1, i2, i3, i4⟩ := p3
                  exact ⟨by rw [co 232 (by decide)]; exact i1, i2, by rw [rsz_e (cI_SIo (by decide))]; exact i3, i4.of (fun _ _ _ _ _ => rfl) (fun _ _ => rfl)⟩
                · obtain ⟨⟨i1, i2, i3, i4, i5, i6⟩, i7⟩ := v3
                  exact ⟨⟨by rw [mo 111 (by decide)]; exact i1, i2, by rw [mo 117 (by decide)]; exact i3, by rw [mo 123 (by decide)]; exact i4, i5, i6.of (fun g k _ _ _ => mo g (by omega) _) (fun g k _ _ => mo g (by omega) _) (fun g k _ _ => mo g (by omega) _) (fun g k _ _ _ => mo g (by omega) _)⟩, by rw [mo 120 (by decide)]; exact i7⟩
                · rw [m107, if_neg (show ¬ nI y = -1 from nI_m1 (by omega))]
                  exact ⟨⟨t3.1, t3.2.1, t3.2.2⟩, ⟨r0, e', x2, w3⟩, t4⟩
              · show THD _ _ m1 D h K x (if x = t then ((f.sp (f.p + 1)).sW V) :: r else Fs x)
                rw [if_neg qx]
                exact (hO3 x hx qx).sag (oc5.2 x qx) ((om4.2 x qx).tr (gm x)) (HVle.refl h)
            · show μ D mx (if t = t then ((f.sp (f.p + 1)).sW V) :: r else Fs t) st < _
              rw [if_pos rfl]
              have h1 := rm_lt t1 (show f.p < f.p + 1 by omega)
              have h2 : μF D (((f.sp (f.p + 1)).sW V) :: r) = rm D f.u (f.p + 1) + 1 + μF D r := rfl
              have h3 : μF D (f :: r) = rm D f.u f.p + 1 + μF D r := rfl
              unfold μ; omega
          · -- it ended with a value
            have h10 : ¬ mA m3 106 y = 0 := by rw [z2]; decide
            rw [if_neg h10, bs_some] at hstep
            dsimp only at hstep
            rw [if_neg ne10, c_strandAt hy8, bs_some] at hstep
            dsimp only at hstep
            rw [if_neg h10] at hmod
            obtain ⟨c4, b4', k1, k2, k3, k4, k5⟩ := p3.push (n := n) (v := cJ c3 236 y) hC p2 t12 (by show sz r + f.d + f.L.length + V.length < 32768; omega)
            obtain ⟨m4, j1, j2, j3⟩ := v3.push (n := n) (x := cJ c3 236 y) b2 t12 rfl z3.n5 rfl (by show vsz r + vln V < 9000; omega)
            refine (GOs.mk hr hA (f' := (f.sp (f.p + 1)).sW (cJ c3 236 y :: V)) (c' := c4) (b' := b4') (m' := m4) (s' := none :: r0) (e' := e') ?_ k3 ?_ k2 k4 j2 (oc.tr (k5.mo (by simp))) (om.tr (j3.mo (by decide))) ⟨t3.1, t3.2.1, t3.2.2⟩ x2 ⟨z3, w3⟩ rfl (by show f.p < f.p + 1; omega)).nxt
            · rw [hstep]
              unfold f_X1_takeOutcome
              rw [z1, z2, if_neg (show ¬ (1 : Int32) = 2 by decide), k1, bs_some]
              rw [c_ck (b := b) (c_ck (fb := fun (q : (Int32 × cd_S × cd_B)) => q.2.2) (b := b4') rfl (Nat.le_refl _) (Nat.le_refl _)) k3.1 k3.2, bs_some]
              rw [c_ck (b := b) (c_ck (fb := fun (q : (Int32 × cd_S × cd_B)) => q.2.2) (b := b4') rfl (Nat.le_refl _) (Nat.le_refl _)) k3.1 k3.2, bs_some]
              exact c_ck (c_ck rfl (Nat.le_refl _) (Nat.le_refl _)) k3.1 k3.2
            · rw [hmod]
              unfold f_X12_hasWaited
              rw [m_ld106 hy8, bs_some, if_pos z2, m_ld109 hy8, bs_some, m_ld110 hy8, bs_some, ← z4, z5, j1, bs_some, bs_some, bs_some, bs_some, bs_some]
          · have h10 : ¬ mA m3 106 y = 0 := by rw [z2]; decide
            rw [if_neg h10, bs_some] at hstep
            dsimp only at hstep
            rw [if_neg ne10, c_strandAt hy8, bs_some] at hstep
            dsimp only at hstep
            rw [if_neg h10] at hmod
            refine fl (mA m3 110 y) ?_ (fun m' hm' => ?_)
            · rw [hstep]
              unfold f_X1_takeOutcome f_X1_fail
              rw [z1, z2, if_pos rfl, z3, bs_some, bs_some]
              rw [c_ck (fb := fun (q : (Int32 × cd_S × cd_B)) => q.2.2) (b := b) rfl (Nat.le_refl _) (Nat.le_refl _), bs_some]
              rw [c_ck (fb := fun (q : (Int32 × cd_S × cd_B)) => q.2.2) (b := b) (c_ck (fb := fun (q : (Int32 × cd_S × cd_B)) => q.2.2) (b := b) rfl (Nat.le_refl _) (Nat.le_refl _)) (Nat.le_refl _) (Nat.le_refl _), bs_some]
              exact c_ck (c_ck rfl (Nat.le_refl _) (Nat.le_refl _)) (Nat.le_refl _) (Nat.le_refl _)
            · rw [hmod]
              unfold f_X12_hasWaited
              rw [m_ld106 hy8, bs_some, if_neg (by rw [z2]; decide), m_ld110 hy8, bs_some, hm', bs_some, bs_some, bs_some, bs_some, bs_some]
      · exact absurd s1 (q1 y)
    · rcases rng_m (n := n) (s := m3) (a := v.toInt32) (K := K) (by omega) with ⟨y', q1, q2⟩ | ⟨q1, q2⟩
      · exact absurd q1 (s1 y')
      · rw [q2, bs_some] at hmod
        dsimp only at hmod
        rw [if_pos rfl] at hmod
        refine fl 8 ?_ (fun m' hm' => ?_)
        · rw [hstep]
          rcases s2 with s2 | ⟨s2, s3⟩
          · rw [if_pos s2]; exact ck2 2 _
          · rw [if_neg s2, if_pos s3]; exact ck2 2 _
        · rw [hmod]
          unfold f_X12_stepWord_J99
          rw [hm', bs_some, bs_some, bs_some, bs_some]
  · rw [if_neg q] at hstep hmod
    refine fl 5 ?_ (fun m' hm' => ?_)
    · rw [hstep]
      exact ck2 2 _
    · rw [hmod, hm', bs_some, bs_some, bs_some, bs_some]
