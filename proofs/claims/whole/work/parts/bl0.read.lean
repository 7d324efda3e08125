/-! fields of objects -/
theorem PG.md {n d : Nat} {c c1 : cd_S} {m m1 : md_S} {D : PD} (h : PG n c m d c1 m1 D) : MDR c m d := by
  obtain ⟨c0, hO, hc⟩ := h.o
  have hm := h.2.2.2.1
  have h35 : mN m 35 = mN m1 35 := hm.mN (by decide)
  exact hO.2.2.2.2.2.2.2.2.2.1.to (fun f hf => hc f (by revert hf; revert f; decide)) (fun f hf => hm f (by revert hf; revert f; decide)) (by omega)
theorem PG.nam {n d a : Nat} {c c1 : cd_S} {m m1 : md_S} {D : PD} (h : PG n c m d c1 m1 D) (ha : a < mN m1 60) : ∃ x y, f_X2_nameAt n c (nI a) = some (x, c) ∧ mldL m 61 (nI a) = some y ∧ NR x y := by
  obtain ⟨c0, hO, hc⟩ := h.o
  have hm := h.2.2.2.1
  have hb := h.tb.1.2.2.2.2
  obtain ⟨n1, n2, n3, n4⟩ := hO.2.2.2.2.2.2.1
  refine ⟨cLr c 77 0 a, mL m 61 a, ?_, m_ld61 (by omega), ?_⟩
  · unfold f_X2_nameAt
    rw [if_neg (show ¬ nI a < 0 from nI_nn (by omega)), (hc 78 (by decide)).1, n1, if_neg (fun z => absurd ((nI_leI (by omega) (by omega)).mp z) (by omega)), c_ld77 (by omega), bs_some]
  · rw [(hc 77 (by decide)).2.2.2.1, (hm 61 (by decide)).2.2.2]; exact n4 a ha
theorem PG.ft {n d o : Nat} {c c1 : cd_S} {m m1 : md_S} {D : PD} (h : PG n c m d c1 m1 D) : ftot m c o = ftot m1 c1 o := by
  unfold ftot
  rw [(h.2.1 71 (by decide)).2.2.1, (h.2.1 70 (by decide)).2.2.1]
/-- a thing's cells -/
theorem HP.ob {n i o a d : Nat} {C : Nat × Nat} {c c1 : cd_S} {m m1 : md_S} {h : HV} {b : cd_B} {bo : Bool} {v : Int64} (hh : HP c m h c1 m1 d) (hB : Bd C c b) (hv : v.toInt32 = nI i) (ht : h.2.1[i]? = some (bo, o, a)) : i < 2000 ∧ f_X1_thingOf n c v = some (nI o, c) ∧ f_X1_slotsOf n c v = some (nI a, c) ∧ mldA m 96 (nI i) = some (nI o) ∧ mldA m 97 (nI i) = some (nI a) := by
  obtain ⟨H, ⟨a1, a2, a3, a4, a5, a6⟩, a7, a8⟩ := hh
  obtain ⟨b1, b2, b3, b4, -⟩ := a7 i bo o a ht
  obtain ⟨q, -⟩ := List.getElem?_eq_some_iff.mp ht
  have hR := hB.1 6 (by omega)
  refine ⟨by omega, ?_, ?_, by rw [m_ld96 (by omega), b3], by rw [m_ld97 (by omega), b4]⟩
  · unfold f_X1_thingOf
    rw [hv, show (2 : Int32) = nI 2 from rfl, nI_mul, Nat.mul_comm i 2, c_at hR (by omega), if_pos (by omega), bs_some, b1]
    unfold i64
    rw [i6432]
  · unfold f_X1_slotsOf
    rw [hv, show (2 : Int32) = nI 2 from rfl, nI_mul, Nat.mul_comm i 2, nI_1, c_at hR (by omega), if_pos (by omega), bs_some, b2]
    unfold i64
    rw [i6432]
theorem i_read {n mx d Z K st t : Nat} {C : Nat × Nat} {c c1 : cd_S} {b : cd_B} {m m1 : md_S} {D : PD} {h : HV} {Ls : List (List Int32)} {Fs : Nat → List FR} {f : FR} {r : List FR} {s : List SH} {e : EN} (hn : 40000 ≤ n) (hC : BC C) (hZ : Z + 1 < 2 ^ 31) (hr : RR n mx d Z C c b m c1 m1 D h Ls K st t Fs (f :: r)) (hA : AT c m m1 D h d t f r s e 5) : NXT n mx d Z C c b m c1 m1 D h K st t Fs (f :: r) := by
  obtain ⟨t1, t2, t3, t4, t5, ⟨t6, t7⟩, t8, t9, t10, ⟨t11, t12, t13, t14⟩, ⟨l1, l2, l3, l4, l5⟩⟩ := id hA
  obtain ⟨⟨hG, ⟨a1, a2, a3, a4, -⟩, -⟩, hB, hTC, hTM, -⟩ := id hr
  obtain ⟨ai, ai1, ai2⟩ := t8.2.2.2.2.1 (Or.inl t6)
  have hb60 := t13.2.2.2.2
  have ho : opd (D.lo f.u) (D.P f.u) e = ai := by rw [opd_k t6 (by decide) (by decide) (by decide) (by decide) (by decide) (by decide), ai1, oN_nI (by omega)]
  obtain ⟨r0, e', x1, x2⟩ := t1.nx t5.1 t6 (by decide) (by decide) (by decide) (by decide) (by decide)
  rw [show pops m1 e = 1 by unfold pops; rw [t6]; rfl] at x1
  have x1 : s = none :: r0 := x1
  rw [show psh e = [none] by unfold psh; rw [t6]; rfl] at x2
  rw [x1] at t2
  obtain ⟨v, V, w1, w2, w3⟩ := WT.n t2
  have hzz : sz (f :: r) = sz r + f.d + f.L.length + f.W.length := rfl
  have hvz : vsz (f :: r) = vsz r + vln f.W := rfl
  have hlen : f.W.length = V.length + 1 := by rw [w1]; rfl
  have hvln : vln V ≤ vln f.W := by rw [w1]; show vln V ≤ (if vS v = 5 then 0 else 1) + vln V; omega
  obtain ⟨c2, g1, g2, g3, g4⟩ := hTC.step (n := n) (j := nO 5) hB
  obtain ⟨c3, p1, p2, p3, p4⟩ := g3.pop (n := n) g2 t12 w1
  obtain ⟨w0, f1, f2, -⟩ := m_fetch (n := n) a2 t12 hTM t5 t10 t1 t6 t7 t9
  obtain ⟨m2, u1, u2, u3, u4⟩ := hTM.step t12 (j := 3)
  have hme2 : mI m2 127 = nI t := by rw [md_frI u4.1 (by decide)]; exact a2
  obtain ⟨m3, v1, v2, v3, v4⟩ := u3.pop (n := n) hme2 t12 w1 w2.n5
  have oc : OPC lc0 t c c3 := (g4.mo (by decide)).tr (p4.mo (by simp))
  have om : OPM lm0 t m m3 := (u4.mo (by decide)).tr (v4.mo (by decide))
  have hR3 := hr.1.op oc om
  obtain ⟨hG3, ⟨b1, b2, b3, b4, b5, b6, b7⟩, hO3⟩ := id hR3
  have hfe := c_fetch (n := n) hB hTC t11 t5 t1 t6 t7 t9
  obtain ⟨nx, ny, n1, n2, n3⟩ := hG3.1.nam ai2
  have n2' : mldL m2 61 (nI ai) = some ny := by
    have e1 : mL m3 61 ai = ny := Option.some.inj ((m_ld61 (by omega)).symm.trans n2)
    rw [m_ld61 (by omega), ← e1, md_frL v4.1 (by decide)]
  have hstep : f_X1_step n c b t = cd_ck (fun (q : (Int32 × cd_S × cd_B)) => q.2.2) b (Option.bind (cd_ck (fun (q : (Int32 × cd_S × cd_B)) => q.2.2) b (if vS v = (2 : Int32) then (Option.bind (f_X1_thingOf n c3 v) fun p3 => Option.bind (f_X2_nameAt n p3.2 (nI ai)) fun p4 => Option.bind (f_X2_fieldSlot n p4.2 (p3.1) (p4.1)) fun p5 => if p5.1 = ((-1) : Int32) then (Option.bind (f_X1_fail n p5.2 t (2 : Int32)) fun p10 => some ((p10.1, p10.2, b))) else (Option.bind (f_X1_slotsOf n p5.2 v) fun p6 => Option.bind (f_X6_get n p6.2 7 ((p6.1 + p5.1))) fun p7 => Option.bind (f_X1_push n p7.2 b t (p7.1)) fun p8 => cd_ck (fun (q : (Int32 × cd_S × cd_B)) => q.2.2) (p8.2.2) <| some ((p8.1, p8.2.1, p8.2.2)))) else (Option.bind (f_X1_fail n c3 t (3 : Int32)) fun p11 => some ((p11.1, p11.2, b))))) fun p20 => cd_ck (fun (q : (Int32 × cd_S × cd_B)) => q.2.2) (p20.2.2) <| some ((p20.1, p20.2.1, p20.2.2))) := by
    rw [hfe]
    congr 1
    refine (j69_5 n t c b _ _ _ _).trans ?_
    rw [g1, bs_some, if_neg (by decide), ho]
    unfold f_X1_readField
    dsimp only
    rw [p1, bs_some]
    dsimp only
    rw [c_vS, bs_some]
  have hmod : ∀ Y, (if vS v = (2 : Int32) then (Option.bind (mldA m3 96 (mv h.1 v)) fun v5 => Option.bind (f_X12_fieldOf n m3 v5 ny) fun p6 => if p6.1 = ((-1) : Int32) then (Option.bind (f_X12_failure n p6.2 (2 : Int32)) fun p10 => some ((0 : Int32), p10.2)) else (Option.bind (mldA p6.2 97 (mv h.1 v)) fun v7 => (f_X12_stepField_J106 n p6.2 ((v7 + p6.1))))) else (Option.bind (f_X12_failure n m3 (3 : Int32)) fun p11 => some ((0 : Int32), p11.2))) = some (0, Y) → f_X12_step n m = some (0, Y) := fun Y hY => by
    have e0 : f_X12_step n m = Option.bind (f_X12_stepOther n m (nI (60 * t + r.length)) 5 w0 (nI (D.cb f.u + f.p))) fun p1 => some ((0 : Int32), p1.2) := f1.trans (ms_5 n m _ _ _)
    rw [e0, so_5]
    unfold f_X12_stepOther_J182 f_X12_stepField f_X12_stepField_J24
    rw [u1, bs_some, show nI (D.cb f.u + f.p) + 3 = nI (D.cb f.u + f.p) + nI 3 from rfl, u2, bs_some, f2 (by decide), ho, n2', bs_some, if_neg (show ¬ (5 : Int32) = 6 by decide), v1, bs_some]
    dsimp only
    rw [v2]
    simp only [if_neg (show ¬ (5 : Int32) = 6 by decide)]
    rw [hY, bs_some, bs_some]
  have fl : ∀ (x : Int32), f_X1_step n c b t = some (2, cSI c3 237 t x, b) → (∀ m', f_X12_failure n m3 x = some (0, m') → f_X12_step n m = some (0, m')) → NXT n mx d Z C c b m c1 m1 D h K st t Fs (f :: r) := fun x hc hm => by
    obtain ⟨k1, k2, k3, k4, k5⟩ := p3.fail (n := n) (x := x) p2
    exact fail_nxt (sY := [none]) (s2 := r0) (X0 := []) (W' := V) (p1 := f.p + 3) (c2 := cSI c3 237 t x) (b2 := b) (m2 := m3) hn hC hZ hr hA hc (ble.refl b) k2 k3 (by simp) k5 (oc.tr (k4.mo (by decide))) hm v3.1 om x1 w3 (by show sz r + f.d + f.L.length + V.length < 32768; omega)
  have ck2 : ∀ (y : Int32) (c9 : cd_S), cd_ck (fun (q : (Int32 × cd_S × cd_B)) => q.2.2) b (Option.bind (cd_ck (fun (q : (Int32 × cd_S × cd_B)) => q.2.2) b (some (y, c9, b))) fun p48 => cd_ck (fun (q : (Int32 × cd_S × cd_B)) => q.2.2) (p48.2.2) <| some ((p48.1, p48.2.1, p48.2.2))) = some (y, c9, b) := fun y c9 => by
    rw [c_ck (fb := fun (q : (Int32 × cd_S × cd_B)) => q.2.2) (b := b) (r := some (y, c9, b)) rfl (Nat.le_refl _) (Nat.le_refl _), bs_some]
    exact c_ck (c_ck rfl (Nat.le_refl _) (Nat.le_refl _)) (Nat.le_refl _) (Nat.le_refl _)
  by_cases q : vS v = 2
  · have hv0 : mv h.1 v = v.toInt32 := mv_n4 (by rw [q]; decide)
    rw [if_pos q] at hstep
    rw [if_pos q] at hmod
    obtain ⟨i, o, a, i1, i2⟩ : ∃ i o a, v.toInt32 = nI i ∧ h.2.1[i]? = some (true, o, a) := by
      rcases w2 with z | z | ⟨-, z⟩ | ⟨z, -⟩ | ⟨z, -⟩
      · rw [z] at q; exact absurd q (by decide)
      · rw [z] at q; exact absurd q (by decide)
      · exact z
      · rw [z] at q; exact absurd q (by decide)
      · rw [z] at q; exact absurd q (by decide)
    have hHP := hG3.2.2.2.2.2.2.2.1
    obtain ⟨o1, o2, o3, o4, o5⟩ := hHP.ob (n := n) p2 i1 i2
    obtain ⟨H, ⟨h1, h2, h3, h4, h5, h6⟩, h7, h8⟩ := hHP
    obtain ⟨o6, o7⟩ := (h7 i true o a i2).2.2.2.2.1 rfl
    rw [o2, bs_some] at hstep
    dsimp only at hstep
    rw [n1, bs_some] at hstep
    dsimp only at hstep
    rw [hv0, i1, o4, bs_some] at hmod
    rcases fld_ok2 (n := n) (by omega) hG3.1.md o6 n3 with ⟨sl, ⟨s1, s2⟩, s3, s4⟩ | ⟨s3, s4⟩
    · rw [hG3.1.ft] at s2
      rw [s3, bs_some] at hstep
      dsimp only at hstep
      rw [if_neg (nI_nem1 (by omega)), o3, bs_some] at hstep
      dsimp only at hstep
      rw [nI_add, c_get (p2.1 7 (by omega)) (by omega), if_pos (by omega), bs_some] at hstep
      dsimp only at hstep
      rw [s4, bs_some] at hmod
      dsimp only at hmod
      rw [if_neg (nI_nem1 (by omega)), o5, bs_some] at hmod
      unfold f_X12_stepField_J106 at hmod
      obtain ⟨d1, d2, d3⟩ := h8 (a + sl) (by omega)
      rw [nI_add, m_ld99 (by omega), bs_some, m_ld100 (by omega), bs_some, d1, d2] at hmod
      obtain ⟨c4, b4', k1, k2, k3, k4, k5⟩ := p3.push (n := n) (v := cRF c3 7 (a + sl)) hC p2 t12 (by show sz r + f.d + f.L.length + V.length < 32768; omega)
      obtain ⟨m4, j1, j2, j3⟩ := v3.push (n := n) (x := cRF c3 7 (a + sl)) b2 t12 rfl d3.n5 rfl (by show vsz r + vln V < 9000; omega)
      refine (GOs.mk hr hA (f' := (f.sp (f.p + 3)).sW (cRF c3 7 (a + sl) :: V)) (c' := c4) (b' := b4') (m' := m4) (s' := none :: r0) (e' := e') ?_ k3 (hmod m4 ?_) k2 k4 j2 (oc.tr (k5.mo (by simp))) (om.tr (j3.mo (by decide))) ⟨t3.1, t3.2.1, t3.2.2⟩ x2 ⟨d3, w3⟩ rfl (by show f.p < f.p + 3; omega)).nxt
      · rw [hstep, k1, bs_some]
        rw [c_ck (b := b) (c_ck (fb := fun (q : (Int32 × cd_S × cd_B)) => q.2.2) (b := b4') rfl (Nat.le_refl _) (Nat.le_refl _)) k3.1 k3.2, bs_some]
        exact c_ck (c_ck rfl (Nat.le_refl _) (Nat.le_refl _)) k3.1 k3.2
      · rw [j1, bs_some]
    · rw [s3, bs_some] at hstep
      dsimp only at hstep
      rw [if_pos rfl] at hstep
      rw [s4, bs_some] at hmod
      dsimp only at hmod
      rw [if_pos rfl] at hmod
      refine fl 2 ?_ (fun m' hm' => hmod m' ?_)
      · rw [hstep]; exact ck2 2 _
      · rw [hm', bs_some]
  · rw [if_neg q] at hstep hmod
    refine fl 3 ?_ (fun m' hm' => hmod m' ?_)
    · rw [hstep]; exact ck2 2 _
    · rw [hm', bs_some]
