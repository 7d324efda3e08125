/-! a thread is made -/
theorem i_spawn {n mx d Z K st t : Nat} {C : Nat × Nat} {c c1 : cd_S} {b : cd_B} {m m1 : md_S} {D : PD} {h : HV} {Ls : List (List Int32)} {Fs : Nat → List FR} {f : FR} {r : List FR} {s : List SH} {e : EN} (hn : 40000 ≤ n) (hC : BC C) (hZ : Z + 1 < 2 ^ 31) (hr : RR n mx d Z C c b m c1 m1 D h Ls K st t Fs (f :: r)) (hA : AT c m m1 D h d t f r s e 23) : NXT n mx d Z C c b m c1 m1 D h K st t Fs (f :: r) := by
  obtain ⟨t1, t2, t3, t4, t5, ⟨t6, t7⟩, t8, t9, t10, ⟨t11, t12, t13, t14⟩, ⟨l1, l2, l3, l4, l5⟩⟩ := id hA
  obtain ⟨⟨hG, ⟨a1, a2, a3, a4, -⟩, -⟩, hB, hTC, hTM, -⟩ := id hr
  obtain ⟨r0, e', x1, x2⟩ := t1.nx t5.1 t6 (by decide) (by decide) (by decide) (by decide) (by decide)
  rw [show pops m1 e = 1 by unfold pops; rw [t6]; rfl] at x1
  have x1 : s = none :: r0 := x1
  rw [show psh e = [none] by unfold psh; rw [t6]; rfl] at x2
  rw [x1] at t2
  obtain ⟨fv, V, w1, w2, w3⟩ := WT.n t2
  have hzz : sz (f :: r) = sz r + f.d + f.L.length + f.W.length := rfl
  have hvz : vsz (f :: r) = vsz r + vln f.W := rfl
  have hlen : f.W.length = V.length + 1 := by rw [w1]; rfl
  have hvln : vln V ≤ vln f.W := by rw [w1]; show vln V ≤ (if vS fv = 5 then 0 else 1) + vln V; omega
  obtain ⟨c2, g1, g2, g3, g4⟩ := hTC.step (n := n) (j := nO 23) hB
  obtain ⟨c3, p1, p2, p3, p4⟩ := g3.pop (n := n) g2 t12 w1
  obtain ⟨w0, f1, f2, -⟩ := m_fetch (n := n) a2 t12 hTM t5 t10 t1 t6 t7 t9
  obtain ⟨m2, u1, u2, u3, u4⟩ := hTM.step t12 (j := 1)
  have hme2 : mI m2 127 = nI t := by rw [md_frI u4.1 (by decide)]; exact a2
  obtain ⟨m3, v1, v2, v3, v4⟩ := u3.pop (n := n) hme2 t12 w1 w2.n5
  have oc : OPC lc0 t c c3 := (g4.mo (by decide)).tr (p4.mo (by simp))
  have om : OPM lm0 t m m3 := (u4.mo (by decide)).tr (v4.mo (by decide))
  have hR3 := hr.1.op oc om
  obtain ⟨hG3, ⟨b1, b2, b3, b4, b5, b6, b7⟩, hO3⟩ := id hR3
  have h8 := hG3.2.1.1
  have hfe := c_fetch (n := n) hB hTC t11 t5 t1 t6 t7 t9
  have hstep : f_X1_step n c b t = cd_ck (fun (q : (Int32 × cd_S × cd_B)) => q.2.2) b (Option.bind (f_X1_spawn n c2 b t) fun p46 => cd_ck (fun (q : (Int32 × cd_S × cd_B)) => q.2.2) (p46.2.2) <| some ((p46.1, p46.2.1, p46.2.2))) := by
    rw [hfe]
    congr 1
    refine (j69_23 n t c b _ _ _ _).trans ?_
    rw [g1, bs_some]
  have hmod : ∀ Y, f_X12_spawns n m3 (vS fv) (mv h.1 fv) = some (0, Y) → f_X12_step n m = some (0, Y) := fun Y hY => by
    have e0 : f_X12_step n m = Option.bind (f_X12_stepOther n m (nI (60 * t + r.length)) 23 w0 (nI (D.cb f.u + f.p))) fun p1 => some ((0 : Int32), p1.2) := f1.trans (ms_23 n m _ _ _)
    rw [e0, so_23]
    unfold f_X12_stepOther_J350 f_X12_stepWord
    rw [u1, bs_some, show nI (D.cb f.u + f.p) + 1 = nI (D.cb f.u + f.p) + nI 1 from rfl, u2, bs_some, v1, bs_some]
    dsimp only
    rw [if_pos (show (23 : Int32) = 23 from rfl), v2, hY, bs_some, bs_some, bs_some]
  have fl : ∀ (x : Int32), f_X1_spawn n c2 b t = some (2, cSI c3 237 t x, b) → (∀ m', f_X12_failure n m3 x = some (0, m') → f_X12_spawns n m3 (vS fv) (mv h.1 fv) = some (0, m')) → NXT n mx d Z C c b m c1 m1 D h K st t Fs (f :: r) := fun x hc hm => by
    obtain ⟨k1, k2, k3, k4, k5⟩ := p3.fail (n := n) (x := x) p2
    refine fail_nxt (sY := [none]) (s2 := r0) (X0 := []) (W' := V) (p1 := f.p + 1) (c2 := cSI c3 237 t x) (b2 := b) (m2 := m3) hn hC hZ hr hA ?_ (ble.refl b) k2 k3 (by simp) k5 (oc.tr (k4.mo (by decide))) (fun m' hm' => hmod m' (hm m' hm')) v3.1 om x1 w3 (by show sz r + f.d + f.L.length + V.length < 32768; omega)
    rw [hstep, hc, bs_some]
    exact c_ck (c_ck rfl (Nat.le_refl _) (Nat.le_refl _)) (Nat.le_refl _) (Nat.le_refl _)
  by_cases q : vS fv = 3
  · have hv0 : mv h.1 fv = fv.toInt32 := mv_n4 (by rw [q]; decide)
    obtain ⟨i, o, a, i1, i2⟩ : ∃ i o a, fv.toInt32 = nI i ∧ h.2.1[i]? = some (false, o, a) := by
      rcases w2 with z | z | ⟨z, -⟩ | ⟨-, z⟩ | ⟨z, -⟩
      · rw [z] at q; exact absurd q (by decide)
      · rw [z] at q; exact absurd q (by decide)
      · rw [z] at q; exact absurd q (by decide)
      · exact z
      · rw [z] at q; exact absurd q (by decide)
    have hHP := hG3.2.2.2.2.2.2.2.1
    obtain ⟨o1, o2, o3, o4, o5⟩ := hHP.ob (n := n) p2 i1 i2
    obtain ⟨H, ⟨hp1, hp2, hp3, hp4, hp5, hp6⟩, h7, h9⟩ := id hHP
    obtain ⟨d1, d2, d3, d4, -, d5⟩ := h7 i false o a i2
    obtain ⟨o6, o7, o8⟩ := d5 rfl
    obtain ⟨⟨N, N1, N2, N3, N4⟩, ⟨p, p1', p2', p3', p4'⟩, ⟨s0, S1, S2, S3, S4⟩, N5, N6⟩ := hG3.1.un o6
    have hsp0 : ∀ R, (cd_ck (fun (q : (Int32 × cd_S × cd_B)) => q.2.2) b (if nI p = 0 then (if nI K < (8 : Int32) then (Option.bind (f_X1_strandAt n c3 (nI K)) fun p5 => Option.bind (f_X7_clear n p5.2 (p5.1) ((cI p5.2 40 0))) fun p6 => Option.bind (f_X1_pushCaptured n p6.2 b (p5.1) fv o) fun p7 => cd_ck (fun (q : (Int32 × cd_S × cd_B)) => q.2.2) (p7.2.2) <| Option.bind (f_X1_call n p7.2.1 (p5.1) o (0 : Int32) (0 : Int32) ((-1) : Int32)) fun p9 => some ((p9.1, p9.2, p7.2.2))) else (Option.bind (f_X1_fail n c3 t (7 : Int32)) fun p10 => some ((p10.1, p10.2, b)))) else (Option.bind (f_X1_fail n c3 t (4 : Int32)) fun p11 => some ((p11.1, p11.2, b))))) = R → f_X1_spawn n c2 b t = R := fun R hR => by
      unfold f_X1_spawn
      rw [p1, bs_some]
      dsimp only
      rw [c_vS, bs_some]
      dsimp only
      rw [if_pos q, o2, bs_some]
      dsimp only
      rw [c_unitAt N6, bs_some]
      dsimp only
      rw [p4', hG3.2.1.2.1]
      exact hR
    have hms0 : ∀ Y, (if nI p = 0 then (if nI K = (8 : Int32) then (Option.bind (f_X12_failure n m3 (7 : Int32)) fun p11 => some ((0 : Int32), p11.2)) else (if nI st = nI mx then (Option.bind (some (mSI m3 129 1)) fun σ9 => Option.bind (some (mSI σ9 128 0)) fun σ10 => some ((0 : Int32), σ10)) else (Option.bind (f_X12_newThread n m3 ) fun p5 => Option.bind (mldA p5.2 96 (nI i)) fun v6 => Option.bind (f_X12_begin n p5.2 (p5.1) v6 (0 : Int32)) fun p7 => if p7.1 = 0 then (f_X12_spawns_J103 n p7.2 (p5.1)) else (Option.bind (f_X12_takeCaptured n p7.2 (p5.1) (nI i)) fun p8 => f_X12_spawns_J103 n p8.2 (p5.1))))) else (Option.bind (f_X12_failure n m3 (4 : Int32)) fun p12 => some ((0 : Int32), p12.2))) = some (0, Y) → f_X12_spawns n m3 (vS fv) (mv h.1 fv) = some (0, Y) := fun Y hY => by
      unfold f_X12_spawns
      rw [if_pos q, hv0, i1, o4, bs_some, m_ld39 N6, bs_some, p3', hG3.2.1.2.2, hG3.2.2.1.2.1, hG3.2.2.1.2.2.2.1]
      exact hY
    by_cases qp : p = 0
    · have qp' : nI p = 0 := by rw [qp]; rfl
      rw [if_pos qp'] at hsp0 hms0
      by_cases qK : K < 8
      · rw [if_pos (show nI K < (8 : Int32) from (nI_ltI (b := 8) (by omega) (by decide)).mpr qK)] at hsp0
        rw [if_neg (show ¬ nI K = 8 from fun z => by have := (nI_eq (a := K) (b := 8) (by omega) (by decide)).mp z; omega)] at hms0
        have htK : t ≠ K := by omega
        -- the class: strand K is made ready
        obtain ⟨c4, k1, k2, k3, k4, k5, k6, k7, k8, k9, k10⟩ := c_clear (n := n) (T := K) (v := nI K) qK p2
        have hHP4 : HP c4 m3 h c1 m1 d := hHP.fr k3.1 (md_fr_refl m3 []) (by simp; omega) (by simp)
        have r47 : rsz c4 7 = H := by rw [rsz_e (cd_frz k3.1 (by simp; omega))]; exact hp4
        have f47 : ∀ q, cRF c4 7 q = cRF c3 7 q := fun q => cd_frF k3.1 (by simp; omega) q
        obtain ⟨c5, b5', j1, j2, j3, j4, j5, j6, j7⟩ := c_pcapL (n := n) (T := K) (u := o) (N := N) (S := 0) (a := a) (c0 := c4) (fv := fv) (g := fun q => cRF c3 7 (a + q)) hC qK (by omega) (by omega) (by omega) (by rw [cd_frI k3.1 (by decide) (by decide)]; exact N4) (fun c' b' hb' hf' => (hHP4.fr hf' (md_fr_refl m3 []) (by simp; omega) (by simp)).ob (n := n) hb' i1 i2 |>.2.2.1) (fun i hi => ⟨by omega, f47 _⟩) N n 0 c4 b (by omega) (by omega) k2 (OPC.refl _ _ _) (by rw [k10])
        obtain ⟨c6, y1, y2, y3, y4, y5, y6, y7, y8, y9, y10⟩ := c_call0 (n := n) (t := K) (u := o) (A := 0) (B := 0) (gv := -1) qK N6 j2
        have o6c : OPC [50, 231, 232, 233, 234, 235, 236, 238, 239, 240, 241] K c3 c6 := ((k3.mo (by simp)).tr (j4.mo (by simp))).tr (y3.mo (by simp))
        have hspawn : f_X1_spawn n c2 b t = some (3, c6, b5') := hsp0 _ (by
          refine c_ck ?_ j3.1 j3.2
          rw [c_strandAt qK, bs_some]
          dsimp only
          rw [hG3.2.1.2.1, k1, bs_some]
          dsimp only
          unfold f_X1_pushCaptured
          rw [show f_X1_pushCaptured_L3 n K o fv n c4 b 0 = _ from j1, bs_some]
          rw [c_ck (b := b) (c_ck (fb := fun (q : (Int32 × cd_S × cd_B)) => q.2.2) (b := b5') rfl (Nat.le_refl _) (Nat.le_refl _)) j3.1 j3.2, bs_some]
          refine c_ck ?_ (Nat.le_refl _) (Nat.le_refl _)
          dsimp only
          rw [show f_X1_call n c5 K o 0 0 (-1) = _ from y1, bs_some])
        have hst6 : f_X1_step n c b t = some (3, c6, b5') := by
          rw [hstep, hspawn, bs_some]
          exact c_ck (c_ck rfl (Nat.le_refl _) (Nat.le_refl _)) j3.1 j3.2
        have hG6 : GLB n mx d Z c6 m3 c1 m1 D h Ls K st := hG3.mg o6c.1 (md_fr_refl m3 []) (by decide) (fun y hy => by simp at hy; omega) (by simp) (by rw [cd_frI o6c.1 (by decide) (by decide)]; exact hG3.2.2.2.1.1) h8 (by rw [cd_frI o6c.1 (by decide) (by decide)]; exact hG3.2.1.2.1) hG3.2.1.2.2
        have hR6 : REST n mx d Z c6 m3 c1 m1 D h Ls K st t Fs := by
          refine ⟨hG6, ⟨b1, b2, b3, ?_, b5.sag (o6c.2 t htK) (MAG.refl m3 t), b6, b7⟩, fun y hy hyt => (hO3 y hy hyt).sag (o6c.2 y (by omega)) (MAG.refl m3 y) (HVle.refl h)⟩
          rw [((o6c.2 t htK).1 231 (by decide) (by decide)).1]; exact b4
        by_cases qs : st < mx
        · rw [if_neg (show ¬ nI st = nI mx from fun z => by have := (nI_eq (a := st) (b := mx) (by have := hG3.2.2.1.2.2.2.2.2.1; omega) (by have := hG3.2.2.1.2.2.2.2.2.1; omega)).mp z; omega)] at hms0
          obtain ⟨m4, z1, z2, z3, z4, z5, z6, z7, z8, z9, z10, z11⟩ := m_newThread (n := n) qK hG3.2.1.2.2
          have hG64 : GLB2 n mx d Z c6 m4 c1 m1 D h Ls K (K + 1) st := hG6.mg (cd_fr_refl c6 [] []) z2 (by simp) (by simp) (by decide) (by rw [md_frI z2 (by decide)]; exact hG6.2.2.2.1.1) h8 hG6.2.1.2.1 z4
          have hT6 : TC c6 t ((f.sp (f.p + 1)).sW V :: r) := p3.sag (o6c.2 t htK)
          have hT60 : TC (cSI c6 41 0 (nI (st + 1))) t ((f.sp (f.p + 1)).sW V :: r) := hT6.sag (SAG.fr (t := t) (cd_fr_SI (cd_fr_refl c6 [41] []) (by simp) (by decide) 0 (nI (st + 1))) (by decide) (by simp))
          have hM4 := v3.mag (z3 t htK)
          have hme4 : mI m4 127 = nI t := by rw [md_frI z2 (by decide)]; exact b2
          have hbg : BGN m4 t h.1 f.nd f.cx (mA m4 115 (60 * t + r.length)) := Or.inr ⟨r.length, by omega, by rw [hM4.1.1, List.length_cons], rfl, fun z => hM4.1.2.2.2.2.2.1.2.2.2.1 z, hM4.1.2.2.2.2.2.1.2.2.2.2⟩
          have hS34 : mA m4 36 o = nI s0 := by rw [md_frA z2 (by decide)]; exact S3
          obtain ⟨nd', cx', h', Ls', c7, b7', m5, k1', k2', k3', k4', k5', k6', k7', k8', k9', k10', k11'⟩ := beg_a (n := n) (T := K) (me := t) (DT := 0) (u := o) (s := s0) (gv := -1) (mu := 0) hn hC hG64 y2 qs o6 y4 y5 (by rw [cd_frI y3.1 (by decide) (by decide), cd_frI j4.1 (by simp) (by decide), k5]; rfl) (by omega) (hT60.node (n := n)) (hT60.cont (n := n)) hme4 t12 qK (by rw [z8]; rfl) hbg hS34 S1 (fun z => Or.inr (t3.2.2.2.2.1 z)) t3.2.2.2.2.2 y8 (fun z => by rw [S2, z] at o7; exact absurd rfl o7)
          have hSU := hG3.1.2.2.2.2.2 o o6
          have hNL : N ≤ D.L o := by have := hSU.2.1.2; omega
          have hL210 := hSU.2.1.1
          obtain ⟨xs, exs⟩ : ∃ xs, xs = (List.range N).map (fun q => cRF c3 7 (a + q)) := ⟨_, rfl⟩
          have hxl : xs.length = N := by rw [exs, List.length_map, List.length_range]
          have hxg : ∀ q (hq : q < xs.length), xs[q] = cRF c3 7 (a + q) := fun q hq => by simp only [exs]; simp
          have n9K : 9 + K ∉ [2, 3, 4, 5] := by simp; omega
          -- strand K enters
          obtain ⟨c8, b8', i1', i2', i3', i4', i5', i6'⟩ := c_enter (n := n) (T := K) (u := o) (L := D.L o) (dd := 0) (F := []) (xs := xs) (nd := nd') (cx := cx') hn hC k4' qK trivial (by rw [cd_frI k5' (by decide) (by decide), cd_frI y3.1 (by decide) (by decide), cd_frI j4.1 (by simp) (by decide), k5]; rfl) (by simp) (by rw [dp_fr k5' (by decide) (by decide)]; exact y5) (by rw [cd_frI k5' (by decide) (by decide), cd_frI o6c.1 (by decide) (by decide)]; exact N5) (by rw [cd_frI k5' (by decide) (by decide)]; exact y6) (by rw [cd_frI k5' (by decide) (by decide)]; exact y7) (by rw [cd_frI k5' (by decide) (by decide), cd_frI k5' (by decide) (by decide), cd_frI o6c.1 (by decide) (by decide), cd_frI o6c.1 (by decide) (by decide)]; exact hSU.2.2.2.2.1.2.1) (by rw [rsz_e (cd_frz k5' n9K), y10, j5, hxl]; rfl) (fun q hq => by
            rw [cd_frF k5' n9K, y9, hxg q hq]
            show cRF c5 (9 + K) (0 + 0 + q) = _
            exact j7 q (by omega) (by omega)) (by omega) (by show 0 + 0 + D.L o < 32768; omega)
          -- the model's thread K
          have hMK : TM m5 K h.1 D.cb [] := by
            have e0 : ∀ g, g ∉ [89, 101, 102, 103, 104, 130, 131, 132, 133, 134] → ∀ x, mA m5 g x = mA m4 g x := fun g hg x => md_frA k6' hg x
            exact ⟨⟨by rw [e0 111 (by decide)]; exact z8, by simp, by rw [e0 117 (by decide)]; exact z9, by rw [e0 123 (by decide)]; exact z11, ⟨by decide, by decide, by decide⟩, trivial⟩, by rw [e0 120 (by decide)]; exact z10⟩
          have hSU5 := k7'.1.2.2.2.2.2 o o6
          obtain ⟨m6, v1', v2', v3', v4', v5', v6'⟩ := m_enter (n := n) (T := K) (u := o) (L := D.L o) (st := st) (dd := 0) (nd := nd') (cx := cx') hn qK N6 hMK (by simp) (by show 0 + D.L o ≤ 12600; omega) hSU5.2.2.2.2.1.2.2 hSU5.2.2.2.1.1 (fun z => (k10' z).1)
          have fr56 : ∀ g, g ∈ [44, 96, 97, 99, 100] → ∀ x, mA m6 g x = mA m3 g x := fun g hg x => by
            have h1 : g ∉ [93, 108, 111, 112, 113, 114, 115, 116, 117, 118, 119] := by simp at hg ⊢; omega
            have h2 : g ∉ [89, 101, 102, 103, 104, 130, 131, 132, 133, 134] := by simp at hg ⊢; omega
            have h3 : g ∉ [105, 106, 107, 108, 109, 110, 111, 117, 120, 123] := by simp at hg ⊢; omega
            rw [md_frA v3' h1, md_frA k6' h2, md_frA z2 h3]
          obtain ⟨g0, eg0⟩ : ∃ g0 : FR, g0 = ((o, 0, 0), (nd', cx'), nones (D.L o), []) := ⟨_, rfl⟩
          rw [← eg0] at v2'
          have e1 : g0.sL (xs.take 0 ++ nones (D.L o - 0)) = g0 := by
            rw [List.take_zero, List.nil_append, Nat.sub_zero, eg0]; rfl
          obtain ⟨m7, q1, q2, q3⟩ := m_takeL (n := n) (t := K) (u := o) (L := D.L o) (N := N) (fi := i) (a := a) (m0 := m6) (rw := h.1) (cb := D.cb) (g := g0) (R := []) (xs := xs) qK N6 o1 (by omega) (by omega) (by omega) (by omega) (by rw [fr56 96 (by simp)]; exact d3) (by rw [fr56 44 (by simp)]; exact N3) (by rw [fr56 97 (by simp)]; exact d4) (fun q hq => by
            obtain ⟨e3, e4, e5⟩ := h9 (a + q) (by omega)
            rw [fr56 99 (by simp), fr56 100 (by simp), e3, e4, hxg q (by omega)]
            exact ⟨rfl, rfl⟩) N n 0 m6 (by omega) (by omega) (OPM.refl _ _ _) (by rw [e1]; exact v2')
          rw [← hxl, List.take_length] at q3
          -- thread t
          have htg : ∀ g, g ∈ [93, 108, 111, 112, 113, 114, 115, 116, 117, 118, 119] → g ≠ 127 := by decide
          have mg7 : MAG m4 m7 t := ((MAG.fr k6' (by decide)).tr (v4' t htK)).tr (q2.2 t htK)
          have hM7 := hM4.mag mg7
          have hme7 : mI m7 127 = nI t := by rw [md_frI q2.1 (by decide), md_frI v3' (by decide), md_frI k6' (by decide)]; exact hme4
          obtain ⟨m8, w1', w2', w3'⟩ := hM7.push (n := n) (x := vv 0 (nI K)) (s := 0) (v := nI K) hme7 t12 (vv_hi _ _).symm (by decide) (by rw [mv_n4 (by rw [vv_hi]; decide), vv_lo]) (by show vsz r + vln V < 9000; omega)
          obtain ⟨c9, e9⟩ : ∃ c9, c9 = cSI c8 45 0 (if cI c8 45 0 < cI c8 232 K then cI c8 232 K else cI c8 45 0) := ⟨_, rfl⟩
          have hs69 : SAG c6 c9 t := ((SAG.fr (t := t) k5' (by decide) (by simp; omega)).tr (i5'.2 t htK)).tr (by rw [e9]; exact SAG.fr (cd_fr_SI (cd_fr_refl c8 [45] []) (by simp) (by decide) _ _) (by decide) (by simp))
          have hT9 := hT6.sag hs69
          have hB9 : Bd C c9 b8' := by rw [e9]; exact i2'.SI (by decide) _ _
          obtain ⟨c10, b10, r1, r2, r3, r4, r5⟩ := hT9.push (n := n) (v := vv 0 (nI K)) hC hB9 t12 (by show sz r + f.d + f.L.length + V.length < 32768; omega)
          have f79 : cd_fr [45, 224, 225, 226, 227, 228, 229, 232, 233] [9 + K] c7 c9 := by rw [e9]; exact cd_fr_SI (cd_fr_mono i5'.1 (by decide) (fun _ z => z)) (by simp) (by decide) _ _
          have h40_9 : cI c9 40 0 = nI K := by rw [cd_frI f79 (by decide) (by decide)]; exact k7'.2.1.2.1
          have h40_10 : cI c10 40 0 = nI K := by rw [cd_frI r5.1 (by simp) (by decide)]; exact h40_9
          have h50 : cd_dp c7 50 0 = some K := by rw [dp_fr k5' (by decide) (by decide)]; exact y4
          have h50' : cd_dp c8 50 0 = some K := by rw [dp_fr i5'.1 (by decide) (by decide)]; exact h50
          have hbeg : f_X1_begin n c6 b5' t = some (1, cSI c10 40 0 (nI (K + 1)), b10) := by
            refine k1' _ ?_ (ble.tr r3 i3')
            unfold f_X1_begin_J110
            rw [h50, bs_some, i1', bs_some]
            refine c_ck ?_ r3.1 r3.2
            dsimp only
            rw [h50', bs_some, bs_some, ← e9, show cd_dp c9 50 0 = some K by rw [e9]; exact h50', bs_some, if_neg (fun z => htK z.symm), h40_9, c_vv, bs_some]
            dsimp only
            rw [r1, bs_some]
            refine c_ck ?_ (Nat.le_refl _) (Nat.le_refl _)
            dsimp only
            rw [h40_10, nI_1, bs_some]
          obtain ⟨cz, ez⟩ : ∃ cz, cz = cSI c10 40 0 (nI (K + 1)) := ⟨_, rfl⟩
          obtain ⟨mz, emz⟩ : ∃ mz, mz = mSI m8 128 0 := ⟨_, rfl⟩
          have hmz : f_X12_spawns n m3 (vS fv) (mv h.1 fv) = some (0, mz) := hms0 _ (by
            rw [z1, bs_some]
            dsimp only
            rw [m_ld96 o1, bs_some, md_frA z2 (by decide), d3, k2', v1', bs_some]
            dsimp only
            rw [if_neg ne10]
            unfold f_X12_takeCaptured f_X12_spawns_J103
            have h111 : mA m6 111 K = nI 1 := v2'.1.1
            rw [m_ld111 qK, bs_some, h111, show (60 : Int32) = nI 60 from rfl, nI_mul, nI_add, show (1 : Int32) = nI 1 from rfl, nI_sub (by omega), show 60 * K + 1 - 1 = 60 * K + ([] : List FR).length from rfl, show f_X12_takeCaptured_L17 n (nI K) (nI i) (nI (60 * K + ([] : List FR).length)) n m6 0 = _ from q1, bs_some, bs_some]
            dsimp only
            rw [w1', bs_some, bs_some, emz])
          -- all of it
          have fcz : cd_fr [40, 45, 224, 225, 226, 227, 228, 229, 232, 233] [9 + K, 9 + t] c7 cz := by
            rw [ez]
            exact cd_fr_SI (cd_fr_tr f79 r5.1 (fun k hk => ⟨fun z => hk (by simp at z ⊢; omega), by simp⟩) (fun k hk => ⟨fun z => hk (by simp at z ⊢; omega), fun z => hk (by simp at z ⊢; omega)⟩)) (by simp) (by decide) _ _
          have fmz : md_fr [93, 108, 111, 112, 113, 114, 115, 116, 117, 118, 119, 120, 121, 122, 128] m5 mz := by
            rw [emz]
            exact md_fr_SI (md_fr_tr (md_fr_tr v3' q2.1 (L3 := [93, 108, 111, 112, 113, 114, 115, 116, 117, 118, 119]) (fun k hk => ⟨hk, fun z => hk (by simp at z ⊢; omega)⟩)) w3'.1 (fun k hk => ⟨fun z => hk (by simp at z ⊢; omega), fun z => hk (by simp at z ⊢; omega)⟩)) (by simp) _
          have h45z : cI cz 45 0 = mI mz 93 := by
            rw [ez, cI_SIo (by decide), cd_frI r5.1 (by simp) (by decide), e9, cI_SIe, emz, mI_SIo (by decide), md_frI w3'.1 (by decide), md_frI q2.1 (by decide), v6', i4'.1, cd_frI i5'.1 (by decide) (by decide), k7'.2.2.2.1.1]
            rfl
          have h105z : mI mz 105 = nI (K + 1) := by rw [md_frI fmz (by decide)]; exact k7'.2.1.2.2
          have hGz : GLB n mx d Z cz mz c1 m1 D h' Ls' (K + 1) (st + 1) := k7'.mg fcz fmz (by decide) (fun y hy => by simp at hy; omega) (by decide) h45z (by omega) (by rw [ez]; exact cI_SIe) h105z
          have sag10 : ∀ y, SAG c10 cz y := fun y => by rw [ez]; exact SAG.fr (cd_fr_SI (cd_fr_refl c10 [40] []) (by simp) (by decide) _ _) (by decide) (by simp)
          have mag8 : ∀ y, MAG m8 mz y := fun y => by rw [emz]; exact MAG.fr (md_fr_SI (md_fr_refl m8 [128]) (by simp) 0) (by decide)
          have sagc : ∀ y, y ≠ K → y ≠ t → SAG c6 cz y := fun y hy hyt => (((SAG.fr (t := y) k5' (by decide) (by simp; omega)).tr (i5'.2 y hy)).tr (show SAG c8 c9 y by rw [e9]; exact SAG.fr (cd_fr_SI (cd_fr_refl c8 [45] []) (by simp) (by decide) _ _) (by decide) (by simp))).tr ((r5.2 y hyt).tr (sag10 y))
          have magc : ∀ y, y ≠ K → y ≠ t → MAG m3 mz y := fun y hy hyt => ((z3 y hy).tr (((MAG.fr k6' (by decide)).tr (v4' y hy)).tr (q2.2 y hy))).tr ((w3'.2 y hyt).tr (mag8 y))
          have hFt : FTS h' m1 D [] (((f.sp (f.p + 1)).sW (vv 0 (nI K) :: V)) :: r) := FTS.mo k8' (F := ((f.sp (f.p + 1)).sW (vv 0 (nI K) :: V)) :: r) ⟨⟨t3.1, t3.2.1, t3.2.2⟩, ⟨none :: r0, e', x2, VOK.int h (nI K), w3⟩, t4⟩
          obtain ⟨e0, x0⟩ := hSU.1.start
          obtain ⟨gK, egK⟩ : ∃ gK : FR, gK = ((o, 0, 0), (nd', cx'), xs ++ nones (D.L o - xs.length), []) := ⟨_, rfl⟩
          have hTKz : TC cz K [gK] := by
            rw [egK]
            exact ((i4'.sag (show SAG c8 c9 K by rw [e9]; exact SAG.fr (cd_fr_SI (cd_fr_refl c8 [45] []) (by simp) (by decide) _ _) (by decide) (by simp))).sag (r5.2 K (fun z => htK z.symm))).sag (sag10 K)
          have hMKz : TM mz K h'.1 D.cb [gK] := by
            rw [k8'.1, egK]
            have := (q3.mag (w3'.2 K (fun z => htK z.symm))).mag (mag8 K)
            rw [eg0] at this
            exact this
          have hFK : FTS h' m1 D [] [gK] := by
            rw [egK]
            refine ⟨⟨o6, ?_, fun v hv => ?_, Nat.zero_le _, fun z => ?_, k11'⟩, ⟨[], e0, x0, trivial⟩, trivial⟩
            · show (xs ++ nones (D.L o - xs.length)).length = D.L o
              rw [List.length_append]; unfold nones; rw [List.length_replicate]; omega
            · have hv' : v ∈ xs ++ nones (D.L o - xs.length) := hv
              rcases List.mem_append.mp hv' with z | z
              · rw [exs] at z
                obtain ⟨q, q1, q2⟩ := List.mem_map.mp z
                rw [← q2]
                exact ((h9 (a + q) (by have := List.mem_range.mp q1; omega)).2.2).mo k8'
              · unfold nones at z
                rw [List.eq_of_mem_replicate z]; exact VOK.none h'
            · obtain ⟨z1, z2⟩ := k10' (by rw [← k8'.1]; exact z)
              exact ⟨st, z2, z1⟩
          have mK : ∀ g, g ∈ [106, 107, 109, 110] → ∀ y, mA mz g y = mA m4 g y := fun g hg y => by
            have h1 : g ∉ [93, 108, 111, 112, 113, 114, 115, 116, 117, 118, 119, 120, 121, 122, 128] := by simp at hg ⊢; omega
            have h2 : g ∉ [89, 101, 102, 103, 104, 130, 131, 132, 133, 134] := by simp at hg ⊢; omega
            rw [md_frA fmz h1, md_frA k6' h2]
          have cK : ∀ g, g ∈ [231, 234, 235] → ∀ y, cI cz g y = cI c6 g y := fun g hg y => by
            have h1 : g ∉ [40, 45, 224, 225, 226, 227, 228, 229, 232, 233] := by simp at hg ⊢; omega
            have h2 : g ∉ [3, 4, 5, 41] := by simp at hg ⊢; omega
            rw [cd_frI fcz h1 (by simp at hg; omega), cd_frI k5' h2 (by simp at hg; omega)]
          have cKK : ∀ g, g ∈ [231, 232, 233, 234, 235] → cI c6 g K = cI c4 g K := fun g hg => by
            have h1 : g ∉ [50, 238, 239, 240, 241] := by simp at hg ⊢; omega
            rw [cd_frI y3.1 h1 (by simp at hg; omega), cd_frI j4.1 (by simp) (by simp at hg; omega)]
          have m108K : mA mz 108 K = 1 := by
            rw [emz, mA_SI, md_frA w3'.1 (by decide), md_frA q2.1 (by decide), v5', md_frA k6' (by decide), z7]; rfl
          have c233K : cI cz 233 K = 1 := by
            rw [ez, cI_SIo (by decide), cd_frI r5.1 (by simp) (by decide), e9, cI_SIo (by decide), i6', cd_frI k5' (by decide) (by decide), cKK 233 (by simp), k6]; rfl
          have c236K : cJ cz 236 K = 4294967296 := by
            rw [cd_frJ fcz (by decide) (by decide), cd_frJ k5' (by decide) (by decide), cd_frJ y3.1 (by decide) (by decide), cd_frJ j4.1 (by simp) (by decide), k9]
          refine ⟨2, 1, cz, b10, mz, by omega, ⟨(by decide : (0 : Int32) ≠ 1), _, hst6, j3, (by decide : (3 : Int32) ≠ 1), (1, cz, b10), by rw [ez]; exact hbeg, ble.tr r3 (ble.tr i3' k3'), rfl⟩, hmod mz hmz, Or.inr ⟨rfl, Or.inr ⟨h', Ls', K + 1, st + 1, fun y => if y = t then ((f.sp (f.p + 1)).sW (vv 0 (nI K) :: V)) :: r else if y = K then [gK] else Fs y, k8', ⟨hGz.mo (Nat.le_add_right Z 2), by rw [ez]; exact r2.SI (by decide) _ _, by rw [emz]; exact mI_SIe, fun y hy => ?_⟩, fun y hy hyt => (if_neg hyt).trans (if_neg (by omega)), Or.inr ⟨rfl, b1, ?_⟩⟩⟩⟩
          · by_cases qt : y = t
            · show THD cz mz m1 D h' (K + 1) y (if y = t then _ else _)
              rw [if_pos qt, qt]
              obtain ⟨j1', j2', j3', j4', j5'⟩ := b5
              have s6t := o6c.2 t htK
              have c233t : cI cz 233 t = cI c3 233 t := by rw [((sag10 t).1 233 (by decide) (by decide)).1, cd_frI r5.1 (by simp) (by decide), (hs69.1 233 (by decide) (by decide)).1, (s6t.1 233 (by decide) (by decide)).1]
              have m108t : mA mz 108 t = mA m3 108 t := by rw [(mag8 t).1 108 (by decide), md_frA w3'.1 (by decide), mg7.1 108 (by decide), (z3 t htK).1 108 (by decide)]
              refine ⟨by rw [cK 231 (by simp), (s6t.1 231 (by decide) (by decide)).1]; exact b4, ⟨?_, ?_, ?_, ?_, ?_⟩, fun z => ?_, fun _ => ⟨by simp, ?_, ?_, ?_⟩⟩
              · rw [cK 234 (by simp), (s6t.1 234 (by decide) (by decide)).1, mK 106 (by simp), (z3 t htK).1 106 (by decide)]; exact j1'
              · rw [c233t, m108t]; exact j2'
              · rw [cK 235 (by simp), (s6t.1 235 (by decide) (by decide)).1, mK 107 (by simp), (z3 t htK).1 107 (by decide)]; exact j3'
              · rw [mK 107 (by simp), (z3 t htK).1 107 (by decide)]; exact Or.inl b7
              · rw [mK 106 (by simp), mK 109 (by simp), mK 110 (by simp), (z3 t htK).1 106 (by decide), (z3 t htK).1 109 (by decide), (z3 t htK).1 110 (by decide), cd_frJ fcz (by decide) (by decide), cd_frJ k5' (by decide) (by decide), (s6t.1 236 (by decide) (by decide)).2.1]; exact j5'
              · rw [mK 106 (by simp), (z3 t htK).1 106 (by decide), b6] at z; exact absurd z (by decide)
              · exact r4.sag (sag10 t)
              · rw [k8'.1]; exact w2'.mag (mag8 t)
              · rw [mK 107 (by simp), (z3 t htK).1 107 (by decide), if_pos b7]; exact hFt
            · by_cases qk : y = K
              · show THD cz mz m1 D h' (K + 1) y (if y = t then _ else _)
                rw [if_neg qt, if_pos qk, qk]
                refine ⟨by rw [cK 231 (by simp), cKK 231 (by simp)]; exact k4, ⟨?_, by rw [c233K, m108K], ?_, ?_, Or.inl ⟨?_, by rw [c236K]; exact vN_hi⟩⟩, fun z => ?_, fun _ => ⟨by simp, hTKz, hMKz, ?_⟩⟩
                · rw [cK 234 (by simp), cKK 234 (by simp), k7, mK 106 (by simp), z5]
                · rw [cK 235 (by simp), cKK 235 (by simp), k8, mK 107 (by simp), z6]
                · rw [mK 107 (by simp), z6]; exact Or.inl rfl
                · rw [mK 106 (by simp), z5]
                · rw [mK 106 (by simp), z5] at z; exact absurd z (by decide)
                · rw [mK 107 (by simp), z6, if_pos rfl]; exact hFK
              · show THD cz mz m1 D h' (K + 1) y (if y = t then _ else _)
                rw [if_neg qt, if_neg qk]
                obtain ⟨j1', ⟨j2', j3', j4', j5', j6'⟩, j7', j8'⟩ := ((hO3 y (by omega) qt).sag (o6c.2 y qk) (MAG.refl m3 y) (HVle.refl h)).sag (sagc y qk qt) (magc y qk qt) k8'
                exact ⟨j1', ⟨j2', j3', j4', j5'.elim Or.inl (fun ⟨w, w1, w2⟩ => Or.inr ⟨w, by omega, w2⟩), j6'⟩, j7', j8'⟩
          · show μ D mx (if t = t then _ else _) (st + 1) + μF D (if K = t then _ else if K = K then [gK] else Fs K) < _
            rw [if_pos rfl, if_neg (fun z => htK z.symm), if_pos rfl]
            have hz1 := rm_lt t1 (show f.p < f.p + 1 by omega)
            have hz2 := rm_le D o 0
            have hz3' := hSU.2.2.2.2.2.2.2
            have e1 : μF D (((f.sp (f.p + 1)).sW (vv 0 (nI K) :: V)) :: r) = rm D f.u (f.p + 1) + 1 + μF D r := rfl
            have e2 : μF D (f :: r) = rm D f.u f.p + 1 + μF D r := rfl
            have e3 : μF D [gK] = rm D o 0 + 1 + 0 := by rw [egK]; rfl
            unfold μ
            rw [e1, e2, e3]
            have : (mx - st) * 3303 = (mx - (st + 1)) * 3303 + 3303 := by
              rw [show mx - st = mx - (st + 1) + 1 by omega, Nat.add_mul]
            omega
        · -- cut
          have hsm : st = mx := by have := hG3.2.2.1.2.2.2.2.1; omega
          rw [if_pos (show nI st = nI mx by rw [hsm])] at hms0
          refine ⟨2, 1, cSI c6 44 0 2, b5', mSI (mSI m3 129 1) 128 0, by omega, ⟨(by decide : (0 : Int32) ≠ 1), _, hst6, j3, (by decide : (3 : Int32) ≠ 1), (1, cSI c6 44 0 2, b5'), ?_, ble.refl b5', rfl⟩, hmod _ (hms0 _ ?_), Or.inr ⟨rfl, Or.inl (hR6.cut y2 (by omega))⟩⟩
          · show f_X1_begin n c6 b5' t = _
            unfold f_X1_begin
            refine c_ck ?_ (Nat.le_refl _) (Nat.le_refl _)
            have hmx := hG6.2.2.1.2.2.2.2.2.1
            rw [y4, bs_some, y5, bs_some, hG6.2.2.1.1, hG6.2.2.1.2.2.1, if_neg (fun z => absurd ((nI_ltI (by omega) (by omega)).mp z) (by omega))]
            rfl
          · rw [bs_some, bs_some]
      · have hK8 : K = 8 := by omega
        rw [if_neg (show ¬ nI K < (8 : Int32) by rw [hK8]; decide)] at hsp0
        rw [if_pos (show nI K = 8 by rw [hK8]; rfl)] at hms0
        refine fl 7 (hsp0 _ ?_) (fun m' hm' => hms0 m' ?_)
        · exact c_ck rfl (Nat.le_refl _) (Nat.le_refl _)
        · rw [hm', bs_some]
    · have qp' : ¬ nI p = 0 := fun z => qp ((nI_eq (b := 0) (by omega) (by decide)).mp z)
      rw [if_neg qp'] at hsp0 hms0
      refine fl 4 (hsp0 _ ?_) (fun m' hm' => hms0 m' ?_)
      · exact c_ck rfl (Nat.le_refl _) (Nat.le_refl _)
      · rw [hm', bs_some]
  · refine fl 3 ?_ (fun m' hm' => ?_)
    · unfold f_X1_spawn
      rw [p1, bs_some]
      dsimp only
      rw [c_vS, bs_some]
      dsimp only
      rw [if_neg q]
      exact c_ck rfl (Nat.le_refl _) (Nat.le_refl _)
    · unfold f_X12_spawns
      rw [if_neg q, hm', bs_some]
