/-! a method is called -/
theorem m_sendL {n t L N y : Nat} {m0 : md_S} {rw : Bool} {cb : Nat → Nat} {g : FR} {R : List FR} {xs : List Int64} (ht : t < 8) (hN : xs.length = N + 1) (hNL : N + 1 ≤ L) (hL : L < 1000) (hy : y + N + 1 < 72000) (hcell : ∀ i (hi : i < xs.length), mA m0 121 (y + i) = vS xs[i] ∧ mA m0 122 (y + i) = mv rw xs[i]) : ∀ (e j i : Nat) (m : md_S), i + e = N + 1 → e < j → OPM [118, 119] t m0 m → mI m 127 = nI t → TM m t rw cb (g.sL (xs.take i ++ nones (L - i)) :: R) → ∃ m', f_X12_sends_L105 n (nI N) (nI y) j m (nI i) = some (m', nI (N + 1)) ∧ OPM [118, 119] t m0 m' ∧ TM m' t rw cb (g.sL (xs ++ nones (L - (N + 1))) :: R) := by
  intro e
  induction e with
  | zero =>
    intro j i m hi hj ho hme hM
    obtain ⟨j, rfl⟩ : ∃ q, j = q + 1 := ⟨j - 1, by omega⟩
    have hiN : i = N + 1 := by omega
    subst hiN
    refine ⟨m, ?_, ho, ?_⟩
    · rw [u_X12_sends_L105, if_pos ((nI_ltI (by omega) (by omega)).mpr (by omega))]
    · rw [← hN, List.take_length] at hM
      rw [← hN]; exact hM
  | succ e ih =>
    intro j i m hi hj ho hme hM
    obtain ⟨j, rfl⟩ : ∃ q, j = q + 1 := ⟨j - 1, by omega⟩
    obtain ⟨m1, a, b, d⟩ := loc1 (n := n) (xs := xs) (i := i) ht hM (by omega) (by omega)
    obtain ⟨m', k1, k2, k3⟩ := ih j (i + 1) m1 (by omega) (by omega) (ho.tr d) (by rw [md_frI d.1 (by decide)]; exact hme) b
    refine ⟨m', ?_, k2, k3⟩
    obtain ⟨e1, e2⟩ := hcell i (by omega)
    rw [u_X12_sends_L105, if_neg (fun z => absurd ((nI_ltI (by omega) (by omega)).mp z) (by omega)), hM.1.fa hme ht, bs_some]
    dsimp only
    rw [nI_add, m_ld121 (by omega), bs_some, m_ld122 (by omega), bs_some, md_frA ho.1 (by decide), md_frA ho.1 (by decide), e1, e2, hme, a, bs_some]
    dsimp only
    rw [nI_1]
    exact k1
theorem c_pair7 {n p d : Nat} {C : Nat × Nat} {c : cd_S} {m m1 : md_S} {b : cd_B} {D : PD} {u : Nat} {s : List SH} {e : EN} (hB : Bd C c b) (hu : u < 60) (hS : SU c m m1 D d u) (hE : TPL m1 (D.Λ u) (D.L u) (D.lo u) (D.P u) (D.E u) p s e) (hk : e.1 = nI 7) (ho : oN e.2.2 < 65536) : f_X6_pairAt n c (18 + 3 * u) (nI p + 3) = some (nI (oN e.2.2), c) := by
  obtain ⟨-, -, ⟨s3, s4⟩, -⟩ := hS
  have hR := hB.1 (18 + 3 * u) (by omega)
  obtain ⟨b1, b2⟩ := hE.bytes
  have hl := eb_ql (L := D.L u) (lo := D.lo u) (P := D.P u) hk (by decide)
  have hbs : ebs hd0 (D.L u) (D.lo u) (D.P u) (D.E u) = D.bs u := rfl
  rw [hbs] at b1 b2
  have h7 : nO 7 = 2 := rfl
  rw [h7] at hl
  have rd : ∀ x, x < 5 → f_X6_at n c (18 + 3 * u) (nI (p + x)) = some (nI ((eb hd0 (D.L u) (D.lo u) (D.P u) e).getD x 0), c) := fun x hx => by
    rw [c_atL hR (by omega), s4, map_getD, b2 x (by omega)]
  have r3 := rd 3 (by omega)
  have r4 := rd 4 (by omega)
  rw [eb_q hk (by decide), if_neg (by decide), if_pos rfl] at r3 r4
  unfold f_X6_pairAt
  rw [show (3 : Int32) = nI 3 from rfl, nI_add, r3, bs_some]
  dsimp only
  rw [show (1 : Int32) = nI 1 from rfl, nI_add, show p + 3 + 1 = p + 4 by omega, r4, bs_some]
  dsimp only
  rw [show (7 :: (pr (opd (D.lo u) (D.P u) e) ++ pr (oN e.2.2))).getD 3 0 = oN e.2.2 / 256 % 256 from rfl, show (7 :: (pr (opd (D.lo u) (D.P u) e) ++ pr (oN e.2.2))).getD 4 0 = oN e.2.2 % 256 from rfl, prb (by omega) (by omega), show 256 * (oN e.2.2 / 256 % 256) + oN e.2.2 % 256 = oN e.2.2 by omega]
theorem i_send {n mx d Z K st t : Nat} {C : Nat × Nat} {c c1 : cd_S} {b : cd_B} {m m1 : md_S} {D : PD} {h : HV} {Ls : List (List Int32)} {Fs : Nat → List FR} {f : FR} {r : List FR} {s : List SH} {e : EN} (hn : 40000 ≤ n) (hC : BC C) (hZ : Z + 1 < 2 ^ 31) (hr : RR n mx d Z C c b m c1 m1 D h Ls K st t Fs (f :: r)) (hA : AT c m m1 D h d t f r s e 7) : NXT n mx d Z C c b m c1 m1 D h K st t Fs (f :: r) := by
  obtain ⟨t1, t2, t3, t4, t5, ⟨t6, t7⟩, t8, t9, t10, ⟨t11, t12, t13, t14⟩, ⟨l1, l2, l3, l4, l5⟩⟩ := id hA
  obtain ⟨⟨hG, ⟨a1, a2, a3, a4, -⟩, -⟩, hB, hTC, hTM, -⟩ := id hr
  obtain ⟨ai, ai1, ai2⟩ := t8.2.2.2.2.1 (Or.inr (Or.inr t6))
  obtain ⟨kk, kk1, kk2⟩ := t8.2.2.2.2.2.1 t6
  have hb60 := t13.2.2.2.2
  have ho : opd (D.lo f.u) (D.P f.u) e = ai := by rw [opd_k t6 (by decide) (by decide) (by decide) (by decide) (by decide) (by decide), ai1, oN_nI (by omega)]
  have hok : oN e.2.2 = kk := by rw [kk1, oN_nI (by omega)]
  obtain ⟨r0, e', x1, x2⟩ := t1.nx t5.1 t6 (by decide) (by decide) (by decide) (by decide) (by decide)
  obtain ⟨c2, g1, g2, g3, g4⟩ := hTC.step (n := n) (j := nO 7) hB
  obtain ⟨w0, f1, f2, f3⟩ := m_fetch (n := n) a2 t12 hTM t5 t10 t1 t6 t7 t9
  obtain ⟨m2, u1, u2, u3, u4⟩ := hTM.step t12 (j := 5)
  have oc : OPC lc0 t c c2 := g4.mo (by decide)
  have om : OPM lm0 t m m2 := u4.mo (by decide)
  have hR2 := hr.1.op oc om
  obtain ⟨hG2, ⟨b1, b2, b3, b4, b5, b6, b7⟩, hO2⟩ := id hR2
  rw [show pops m1 e = kk + 1 by unfold pops; rw [t6]; show oN e.2.2 + 1 = kk + 1; rw [hok]] at x1
  rw [show psh e = [none] by unfold psh; rw [t6]; rfl] at x2
  rw [x1] at t2
  obtain ⟨X', V, w1, w2, w3, w4⟩ := t2.pops
  obtain ⟨X, ob, eX⟩ : ∃ X ob, X' = X ++ [ob] := by
    rcases List.eq_nil_or_concat X' with z | ⟨X, cv, z⟩
    · rw [z] at w2; exact absurd w2 (by simp)
    · exact ⟨X, cv, by rw [z, List.concat_eq_append]⟩
  have wX : X.length = kk := by rw [eX, List.length_append] at w2; simpa using w2
  have wo : VOK h ob := w3 ob (by rw [eX]; simp)
  have hX5 : ∀ v, v ∈ X' → vS v ≠ 5 := fun v hv => (w3 v hv).n5
  have hlen : f.W.length = kk + 1 + V.length := by rw [w1, List.length_append, w2]
  have hvln : vln f.W = kk + 1 + vln V := by rw [w1, (mln_app X' V).2, vlnX hX5, w2]
  have hzz : sz (f :: r) = sz r + f.d + f.L.length + f.W.length := rfl
  have hvz : vsz (f :: r) = vsz r + vln f.W := rfl
  have hfe := c_fetch (n := n) hB hTC t11 t5 t1 t6 t7 t9
  have hsz2 : cI c2 193 (9 + t) = nI (sz (f :: r)) := by
    have e1 : sz (f.sp (f.p + (1 + 2 * nO 7)) :: r) = sz (f :: r) := rfl
    rw [(g2.1 (9 + t) (by omega)).1, g3.2.2.1, e1]
  have hm120 : mA m2 120 t = nI (vsz (f :: r)) := u3.2
  have hobW : ∀ (hk : kk < f.W.length), f.W[kk] = ob := fun hk => by
    simp only [w1, eX]
    rw [List.getElem_append_left (by simp; omega), List.getElem_append_right (by omega)]
    simp [wX]
  have hpk : f_X7_peek n c2 t (nI kk) = some (ob, c2) := by
    have := g3.peek (n := n) (k := kk) g2 t12 (by show kk < f.W.length; omega)
    refine this.trans ?_
    congr 2
    exact hobW (by omega)
  obtain ⟨nx, ny, n1, n2, n3⟩ := hG2.1.nam ai2
  have hpair := c_pair7 (n := n) g2 t11 (hG2.1.2.2.2.2.2 f.u t3.1) t1 t6 (by omega)
  rw [hok] at hpair
  have hstep : f_X1_step n c b t = cd_ck (fun (q : (Int32 × cd_S × cd_B)) => q.2.2) b (Option.bind (f_X1_send n c2 t (nI ai) (nI kk)) fun p25 => some ((p25.1, p25.2, b))) := by
    rw [hfe]
    congr 1
    refine (j69_7 n t c b _ _ _ _).trans ?_
    rw [g1, bs_some, if_neg (by decide), ho]
    dsimp only
    rw [hpair, bs_some]
  -- the model
  obtain ⟨m3, em3⟩ : ∃ m3, m3 = mSA m2 120 t (nI (vsz r + vln V)) := ⟨_, rfl⟩
  obtain ⟨hM3, om3⟩ := u3.drop (X := X') (V := V) w1 hX5
  rw [← em3] at hM3 om3
  have hme3 : mI m3 127 = nI t := by rw [em3]; exact b2
  have hw8 := u3.1.2.2.2.2.2.2.2.1
  have hw8' : MWk m2 t h.1 (r.length + 1) (D.cb f.u) (vsz r) (tsz r) (X' ++ V) := by rw [← w1]; exact hw8
  have hcell : ∀ i (hi : i < X'.reverse.length), mA m3 121 (9000 * t + (vsz r + vln V) + i) = vS X'.reverse[i] ∧ mA m3 122 (9000 * t + (vsz r + vln V) + i) = mv h.1 X'.reverse[i] := fun i hi => by
    rw [List.length_reverse] at hi
    obtain ⟨n1, n2⟩ := hw8'.nth hX5 (X'.length - 1 - i) (by omega)
    rw [show X'.length - 1 - (X'.length - 1 - i) = i by omega] at n1 n2
    rw [rev_get, md_frA om3.1 (by decide), md_frA om3.1 (by decide), show 9000 * t + (vsz r + vln V) + i = 9000 * t + (vsz r + vln V + i) by omega, n1, n2]
    exact ⟨rfl, rfl⟩
  have hrev0 : ∀ (hk : 0 < X'.reverse.length), X'.reverse[0] = ob := fun hk => by
    simp only [eX, List.reverse_append, List.reverse_singleton, List.singleton_append, List.getElem_cons_zero]
  obtain ⟨c0a, c0b⟩ := hcell 0 (by rw [List.length_reverse]; omega)
  rw [hrev0, Nat.add_zero] at c0a c0b
  have n2m : mldL m2 61 (nI ai) = some ny := n2
  have hw7 : f_X12_wordAt n m2 (nI (D.cb f.u + f.p) + 3) = some (nI kk, m2) := by
    have := f3 rfl
    rw [hok, Nat.mod_eq_of_lt (by omega)] at this
    unfold f_X12_wordAt at this ⊢
    have e74 : ∀ x, mldA m2 74 x = mldA m 74 x := fun x => by
      have : m2.2.2.1 74 = m.2.2.1 74 := ((u4.1 74 (by decide)).2.2.1).symm
      unfold mldA
      rw [this]
    rw [e74, e74]
    revert this
    cases mldA m 74 (nI (D.cb f.u + f.p) + 3) with
    | none => intro z; exact absurd z (by simp)
    | some v1 =>
      cases mldA m 74 (nI (D.cb f.u + f.p) + 3 + 1) with
      | none => intro z; exact absurd z (by simp)
      | some v2 =>
        intro z
        rw [bs_some, bs_some] at z ⊢
        rw [(Prod.mk.inj (Option.some.inj z)).1]
  have hmod : ∀ Y, (if vS ob = (2 : Int32) then (Option.bind (mldA m3 96 (mv h.1 ob)) fun v6 => Option.bind (f_X12_methodOf n m3 v6 ny (nI kk)) fun p7 => if p7.1 = ((-1) : Int32) then (Option.bind (f_X12_failure n p7.2 (2 : Int32)) fun p14 => some ((0 : Int32), p14.2)) else (Option.bind (f_X12_begin n p7.2 ((mI p7.2 127)) (p7.1) (0 : Int32)) fun p8 => if p8.1 = 0 then (some ((0 : Int32), p8.2)) else (Option.bind (f_X12_sends_L105 n (nI kk) (nI (9000 * t + (vsz r + vln V))) n p8.2 0) fun q13 => some ((0 : Int32), q13.1)))) else (Option.bind (f_X12_failure n m3 (3 : Int32)) fun p15 => some ((0 : Int32), p15.2))) = some (0, Y) → f_X12_step n m = some (0, Y) := fun Y hY => by
    have e1 : f_X12_step n m = Option.bind (f_X12_stepOther n m (nI (60 * t + r.length)) 7 w0 (nI (D.cb f.u + f.p))) fun p1 => some ((0 : Int32), p1.2) := f1.trans (ms_7 n m _ _ _)
    rw [e1, so_7, u1, bs_some, show nI (D.cb f.u + f.p) + 5 = nI (D.cb f.u + f.p) + nI 5 from rfl, u2, bs_some, f2 (by decide), ho, n2m, bs_some, hw7, bs_some]
    dsimp only
    unfold f_X12_sends
    rw [b2, m_ld120 t12, bs_some, bs_some, hm120, show (9000 : Int32) = nI 9000 from rfl, nI_mul, nI_add, nI_sub (by omega), show (1 : Int32) = nI 1 from rfl, nI_sub (by omega), nI_add, nI_sub (by omega), m_st120 t12, bs_some, show vsz (f :: r) - (kk + 1) = vsz r + vln V by omega, ← em3, show 9000 * t + vsz (f :: r) - kk - 1 = 9000 * t + (vsz r + vln V) by omega, m_ld121 (by omega), bs_some, c0a, m_ld122 (by omega), bs_some, c0b]
    refine (congrArg (fun z => Option.bind (Option.bind z fun p22 => some ((0 : Int32), p22.2)) fun p1 => some ((0 : Int32), p1.2)) hY).trans ?_
    rfl
  have fl : ∀ (x : Int32), f_X1_send n c2 t (nI ai) (nI kk) = some (2, cSI c2 237 t x) → (∀ m', f_X12_failure n m3 x = some (0, m') → f_X12_step n m = some (0, m')) → NXT n mx d Z C c b m c1 m1 D h K st t Fs (f :: r) := fun x hc hm => by
    obtain ⟨k1, k2, k3, k4, k5⟩ := g3.fail (n := n) (x := x) g2
    refine fail_nxt (sY := List.replicate (kk + 1) none) (s2 := r0) (X0 := X') (W' := V) (p1 := f.p + 5) (c2 := cSI c2 237 t x) (b2 := b) (m2 := m3) hn hC hZ hr hA ?_ (ble.refl b) k2 ?_ hX5 k5 (oc.tr (k4.mo (by decide))) hm hM3.1 (om.tr (om3.mo (by decide))) x1 w4 ?_
    · rw [hstep, hc, bs_some]
      exact c_ck rfl (Nat.le_refl _) (Nat.le_refl _)
    · rw [← w1]; exact k3
    · show sz r + f.d + f.L.length + (X' ++ V).length < 32768
      rw [← w1]; omega
  by_cases q : vS ob = 2
  · have hv0 : mv h.1 ob = ob.toInt32 := mv_n4 (by rw [q]; decide)
    rw [if_pos q] at hmod
    obtain ⟨i, o, a, i1, i2⟩ : ∃ i o a, ob.toInt32 = nI i ∧ h.2.1[i]? = some (true, o, a) := by
      rcases wo with z | z | ⟨-, z⟩ | ⟨z, -⟩ | ⟨z, -⟩
      · rw [z] at q; exact absurd q (by decide)
      · rw [z] at q; exact absurd q (by decide)
      · exact z
      · rw [z] at q; exact absurd q (by decide)
      · rw [z] at q; exact absurd q (by decide)
    have hR3 : REST n mx d Z c2 m3 c1 m1 D h Ls K st t Fs := hR2.op (OPC.refl _ _ _) (om3.mo (by decide))
    have hHP := hR3.1.2.2.2.2.2.2.2.1
    obtain ⟨o1, o2, o3, o4, o5⟩ := hHP.ob (n := n) g2 i1 i2
    obtain ⟨H, -, h7, h8⟩ := hHP
    obtain ⟨o6, o7⟩ := (h7 i true o a i2).2.2.2.2.1 rfl
    rw [hv0, i1, o4, bs_some] at hmod
    have hsend : ∀ R, (Option.bind (f_X2_findMethod n c2 (nI o) nx (nI kk)) fun p5 => if p5.1 = ((-1) : Int32) then (Option.bind (f_X1_fail n p5.2 t (2 : Int32)) fun p8 => some ((p8.1, p8.2))) else (Option.bind (f_X2_unitAt n p5.2 (p5.1)) fun p6 => Option.bind (f_X1_call n p6.2 t (p6.1) ((((cI p5.2 193 ((9 + 1 * t))) - 1) - (nI kk))) ((((cI p5.2 193 ((9 + 1 * t))) - 1) - (nI kk))) ((-1) : Int32)) fun p7 => some ((p7.1, p7.2)))) = R → f_X1_send n c2 t (nI ai) (nI kk) = R := fun R hR => by
      unfold f_X1_send
      rw [hpk, bs_some]
      dsimp only
      rw [c_vS, bs_some]
      dsimp only
      rw [if_pos q, o2, bs_some]
      dsimp only
      rw [n1, bs_some]
      exact hR
    rcases mth_ok (n := n) (p := nI kk) (by omega) hR3.1.1.md hR3.1.1.mth n3 o6 with ⟨v, ⟨v1, v2, v3, v4⟩, v5, v6⟩ | ⟨v5, v6⟩
    · obtain ⟨⟨N, N1, N2, N3, N4⟩, ⟨p, p1, p2, p3, p4⟩, ⟨s0, S1, S2, S3, S4⟩, N5, N6⟩ := hR3.1.1.un v2
      have hpk2 : p = kk := (nI_eq (by omega) (by omega)).mp (p3.symm.trans v4)
      have hs0 : s0 = 0 := (nI_eq (b := 0) (by omega) (by omega)).mp (S3.symm.trans v3)
      have hSU := hR3.1.1.2.2.2.2.2 v v2
      have hNL : kk + 1 ≤ D.L v := by
        have := hSU.2.1.2
        rw [S2, hs0, if_pos (show nI 0 = 0 from rfl)] at this
        omega
      have hL210 := hSU.2.1.1
      rw [v6, bs_some] at hmod
      dsimp only at hmod
      rw [if_neg (nI_nem1 (by omega)), hme3] at hmod
      obtain ⟨c3, k1, k2, k3, k4, k5, k6, k7, k8, k9, k10⟩ := c_call (n := n) (t := t) (u := v) (A := sz (((f.sp (f.p + 5)).sW V) :: r) + 0) (B := sz (((f.sp (f.p + 5)).sW V) :: r)) (gv := -1) t12 v1 g2 g3
      have hs1 : sz (((f.sp (f.p + 5)).sW V) :: r) = sz r + f.d + f.L.length + V.length := rfl
      refine call_nxt (p1 := f.p + 5) (u := v) (dd := 0) (s0 := s0) (c2 := c3) (b2 := b) (m2 := m3) (XS := X') (W' := V) (xs := X'.reverse) (sY := List.replicate (kk + 1) none) (s2 := r0) (e' := e') (gv := -1) (mu := 0) hn hC hZ hr hA ?_ (ble.refl b) k2 ?_ hX5 (oc.tr (k4.mo (by decide))) k5 k6 (by rw [List.length_reverse]; omega) (by omega) (fun i hi => ?_) (fun v hv => w3 v (List.mem_reverse.mp hv)) (by rw [List.length_reverse]; omega) k7 k8 k9 v2 S3 S1 (fun z => by omega) hM3 (om.tr (om3.mo (by decide))) x1 w4 x2 (by omega) ?_ (fun m' hm' => hmod m' ?_) (fun m5 g0 z1 z2 z3 z4 z5 => ?_)
      · rw [hstep, hsend (some (3, c3)) ?_, bs_some]
        · exact c_ck rfl (Nat.le_refl _) (Nat.le_refl _)
        · rw [v5, bs_some]
          dsimp only
          rw [if_neg (nI_nem1 (by omega)), c_unitAt v1, bs_some]
          dsimp only
          rw [Nat.one_mul, hsz2, show (1 : Int32) = nI 1 from rfl, nI_sub (by omega), nI_sub (by omega), show sz (f :: r) - 1 - kk = sz (((f.sp (f.p + 5)).sW V) :: r) by omega]
          rw [Nat.add_zero] at k1
          rw [show (-nI 1 : Int32) = -1 from rfl, k1, bs_some]
      · have e1 : (f.sp (f.p + 5)).sW (X' ++ V) = f.sp (f.p + (1 + 2 * nO 7)) := by rw [← w1]; rfl
        rw [e1]; exact k3
      · rw [List.length_reverse, w2] at hi
        have := g3.2.2.2.2.2.1.nth (k := kk - i) (by show kk - i < f.W.length; omega)
        have e1 : sz r + (f.sp (f.p + (1 + 2 * nO 7))).d + (f.sp (f.p + (1 + 2 * nO 7))).L.length + ((f.sp (f.p + (1 + 2 * nO 7))).W.length - 1 - (kk - i)) = sz (((f.sp (f.p + 5)).sW V) :: r) + 0 + i := by
          show sz r + f.d + f.L.length + (f.W.length - 1 - (kk - i)) = _
          omega
        rw [e1] at this
        rw [k10, this, rev_get]
        show f.W[kk - i] = _
        simp only [w1]
        rw [List.getElem_append_left (by omega)]
        congr 1; omega
      · show sz r + f.d + f.L.length + (X' ++ V).length < 32700
        rw [← w1]; omega
      · rw [hm', bs_some]
        dsimp only
        rw [if_pos rfl]
      · have e1 : g0.sL (X'.reverse.take 0 ++ nones (D.L v - 0)) = g0 := by
          rw [List.take_zero, List.nil_append, Nat.sub_zero, ← z2]; rfl
        obtain ⟨m6, y1, y2, y3⟩ := m_sendL (n := n) (t := t) (L := D.L v) (N := kk) (y := 9000 * t + (vsz r + vln V)) (m0 := m5) (rw := h.1) (cb := D.cb) (g := g0) (R := ((f.sp (f.p + 5)).sW V) :: r) (xs := X'.reverse) t12 (by rw [List.length_reverse]; exact w2) hNL (by omega) (by omega) (fun i hi => by rw [z5 121 (by simp), z5 122 (by simp)]; exact hcell i hi) (kk + 1) n 0 m5 (by omega) (by omega) (OPM.refl _ _ _) z4 (by rw [e1]; exact z3)
        refine ⟨m6, hmod m6 ?_, by rw [List.length_reverse, w2]; exact y3, y2⟩
        rw [z1, bs_some]
        dsimp only
        rw [if_neg ne10, show f_X12_sends_L105 n (nI kk) (nI (9000 * t + (vsz r + vln V))) n m5 0 = _ from y1, bs_some]
    · rw [v6, bs_some] at hmod
      dsimp only at hmod
      rw [if_pos rfl] at hmod
      refine fl 2 (hsend _ ?_) (fun m' hm' => hmod m' ?_)
      · rw [v5, bs_some]
        dsimp only
        rw [if_pos rfl]
        rfl
      · rw [hm', bs_some]
  · rw [if_neg q] at hmod
    refine fl 3 ?_ (fun m' hm' => hmod m' ?_)
    · unfold f_X1_send
      rw [hpk, bs_some]
      dsimp only
      rw [c_vS, bs_some]
      dsimp only
      rw [if_neg q]
      rfl
    · rw [hm', bs_some]
