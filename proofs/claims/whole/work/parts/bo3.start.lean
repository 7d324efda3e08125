/-! a run begins -/
def Dst (D : PD) (cS : cd_S) (mS : md_S) : PD := (D.1, D.2.1, D.2.2.1, D.2.2.2.1, D.2.2.2.2.1, D.2.2.2.2.2.1, cS, mS)
theorem PG.set {n d : Nat} {c c' c1 cS : cd_S} {m m' m1 mS : md_S} {D : PD} (h : PG n c m d c1 m1 D) (k1 : CE plCF c c') (k2 : RK c c') (k3 : ∀ r, 17 ≤ r → rL c' r = rL c r) (k4 : ME plMF m m') (k5 : PK m m') (k6 : ∀ i, mA m' 74 i = mA m 74 i ∧ mA m' 76 i = mA m 76 i) (k7 : cd_fr (160 :: 161 :: 162 :: 163 :: mcL) mcR cS c') (k8 : md_fr (17 :: 18 :: 19 :: mmL) mS m' ∧ KR cS c' ∧ K4 mS m') : PG n c' m' d c1 m1 (Dst D cS mS) := by
  obtain ⟨⟨h1, ha, hb⟩, h2, h3, h4, h5, h6⟩ := h
  refine ⟨⟨h1, k7, k8⟩, h2.tr k1, h3.tr k2, h4.tr k4, h5.tr k5, fun u hu => ?_⟩
  obtain ⟨s1, s2, ⟨s3, s4⟩, ⟨s5, s6, s7⟩, ⟨s8, s9, s10⟩, s11⟩ := h6 u hu
  refine ⟨s1, s2, ⟨s3, by rw [k3 _ (by omega)]; exact s4⟩, ⟨by rw [(k6 _).2]; exact s5, s6, fun x hx => by rw [(k6 _).1]; exact s7 x hx⟩, ⟨?_, ?_, ?_⟩, s11⟩
  · rw [(k1 288 (by decide)).1]; exact s8
  · rw [(k1 299 (by decide)).1, (k1 298 (by decide)).1]; exact s9
  · rw [(k4 44 (by decide)).2.2.1, (k4 36 (by decide)).2.2.1, (k4 39 (by decide)).2.2.1, (k4 46 (by decide)).2.2.1]; exact s10
theorem cK_fr (c : cd_S) (a2 : Int32) : cd_fr [47, 48, 51] [] c (cK c a2) := cd_fr_SI (cd_fr_SI (cd_fr_SI (cd_fr_refl _ _ _) (by simp) (by decide) _ _) (by simp) (by decide) _ _) (by simp) (by decide) _ _
theorem mK_fr (m : md_S) : md_fr [0, 86] m (mK m) := md_fr_SI (md_fr_SI (md_fr_refl _ _) (by simp) _) (by simp) _
theorem start_run {n mx d u : Nat} {C : Nat × Nat} {c c1 : cd_S} {b : cd_B} {m m1 : md_S} {D0 : PD} {a2 : Int32} {rw : Bool} (hn : 40000 ≤ n) (hC : BC C) (hP : PG n c m d c1 m1 D0) (hB : Bd C c b) (hu : u < mN m1 35) (h36 : mA m1 36 u = 0) (hmx1 : 1 ≤ mx) (hmx : mx ≤ 4000) :
    ∃ h Ls c' b' m' f, f_X1_prepare n c b u a2 (nI mx) (rI rw) = some (0, c', b') ∧ ble b' b ∧ f_X12_run_J74 n m (nI u) a2 (nI mx) (rI rw) 0 = (Option.bind (f_X12_run_L212 n a2 n m' a2 1) fun q31 => if (mI q31.1 129) = 0 then (Option.bind (f_X12_going n q31.1 ) fun p32 => if p32.1 ≤ 0 then (f_X12_run_J323 n p32.2 0) else (f_X12_run_J323 n p32.2 1)) else (f_X12_run_J323 n q31.1 2)) ∧ RR n mx d 0 C c' b' m' c1 m1 (Dst D0 (cK c a2) (mK m)) h Ls 1 1 0 (fun _ => []) [f] ∧ μF (Dst D0 (cK c a2) (mK m)) [f] ≤ 3302 := by
  obtain ⟨D, eD⟩ : ∃ D, D = Dst D0 (cK c a2) (mK m) := ⟨_, rfl⟩
  rw [← eD]
  obtain ⟨c2, p1, p2, p3, p4, p5, ⟨p40, p41, p42, p43, p44, p45, p46, p49, pP⟩, p231, p232, p233, p234, p235, p236⟩ := c_prepA (n := n) (u := u) (a2 := a2) (a3 := nI mx) (rw := rw) (by omega) hB
  obtain ⟨m2, q1, q2, ⟨q87, q89, q90, q91, q93, q94, q95, q98, q101, q105, q127, q129⟩, ⟨q130, q131, q132⟩, q106, q107, q108, q111, q117, q120, q123⟩ := m_prepA (n := n) (m := m) (u := nI u) (a2 := a2) (a3 := nI mx) (rw := rw)
  have fc0 : cd_fr (47 :: 48 :: 51 :: lcP) lrP c c2 := cd_fr_tr (cK_fr c a2) p3 (fun k hk => ⟨nin (by decide) hk, nin (by decide) hk⟩) (fun k hk => ⟨by simp, hk⟩)
  have fm0 : md_fr (0 :: 86 :: lmP) m m2 := md_fr_tr (mK_fr m) q2 (fun k hk => ⟨nin (by decide) hk, nin (by decide) hk⟩)
  have hP2 : PG n c2 m2 d c1 m1 D := by
    rw [eD]
    refine hP.set (CE.of fc0 (by decide)) (fun x _ => ⟨cd_frI fc0 (by decide) (by decide) x, cd_frI fc0 (by decide) (by decide) x, cd_frJ fc0 (by decide) (by decide) x, fun i => cd_frL fc0 (by decide) (by decide) x i⟩) (fun r hr => rL_fr fc0 (fun y => ?_)) (ME.of fm0 (by decide)) (fun x _ => ⟨md_frA fm0 (by decide) x, md_frA fm0 (by decide) x, fun i _ => md_frL fm0 (by decide) _⟩) (fun i => ⟨md_frA fm0 (by decide) i, md_frA fm0 (by decide) i⟩) (cd_fr_mono p3 (by decide) (by decide)) ⟨md_fr_mono q2 (by decide), KR.of p3 (by decide) (by decide) (by decide) (by decide), K4.of q2 (by decide) (by decide) (by decide)⟩
    unfold lrP at y
    simp at y
    omega
  obtain ⟨-, -, -, u288, hu60⟩ := hP2.un hu
  -- the module
  obtain ⟨o, o1, o2, o3⟩ : ∃ o, o < d ∧ cI c2 290 u = nI o ∧ mA m2 37 u = nI o := by
    obtain ⟨c0, hO, hc⟩ := hP2.o
    have hm := hP2.2.2.2.1
    obtain ⟨dd, e1, e2⟩ := hO.2.2.2.2.2.2.2.2.2.2.2.2.2.1 u hu
    have hur := hO.2.2.2.1 u hu
    refine ⟨dd, e1, ?_, by rw [(hm 37 (by decide)).2.2.1]; exact e2⟩
    rw [(hc 290 (by decide)).1, hur.2.2.1]; exact e2
  have hm36 : mA m2 36 u = 0 := by rw [(hP2.2.2.2.1 36 (by decide)).2.2.1]; exact h36
  have hd8 := hP2.tb.2
  have hdp : ∀ z : cd_S, cP z 50 0 = 1 → cd_dp z 50 0 = some 0 := fun z hz => by
    unfold cd_dp
    have : z.2.2.2.2.1 50 0 = 1 := hz
    rw [this]; rfl
  -- the class makes the object
  have hcnt : f_X1_thingCount n c2 = some (0, c2) := by
    unfold f_X1_thingCount
    rw [(p2.1 6 (by omega)).1, p4 6 (by decide)]; rfl
  obtain ⟨c3, b3, k1, k2, k3, k4, k5, k6, k7, k8⟩ := c_thing (n := n) (T := 0) (H := 0) (o := o) hC p2 (p4 6 (by decide)) (by decide) (p4 7 (by decide))
  have hP3 : PG n c3 m2 d c1 m1 D := hP2.to (SK.fr k4 (md_fr_refl m2 []) (by simp) (by decide) (by simp))
  obtain ⟨N, N1, N2, N3, β, kk, N4, N5, N6, N7, N8⟩ := hP3.tot o1
  have r37 : rsz c3 7 = 0 := by rw [rsz_e (cd_frz k4 (by decide))]; exact p4 7 (by decide)
  obtain ⟨c4, b4, j1, j2, j3, j4, j5, j6, j7⟩ := c_newL (n := n) (t := 0) (l3 := nI 0) hC (by omega) N3 N n 0 c3 b3 (by omega) (by omega) k2 (cd_fr_refl _ _ _) (by omega)
  have r49 : rsz c4 9 = 0 := by rw [rsz_e (cd_frz j4 (by decide)), rsz_e (cd_frz k4 (by decide))]; exact p4 9 (by decide)
  have hcap9 : rcap 9 = 32768 := by decide
  obtain ⟨b5, d1, d2, d3, d4⟩ := c_add (n := n) (v := vv 2 (nI 0)) hC j2 (r := 9) (by omega) (by omega)
  obtain ⟨c5, e5⟩ : ∃ z, z = rAdd c4 9 (vv 2 (nI 0)) := ⟨_, rfl⟩
  rw [← e5] at d1 d2
  have f45 : cd_fr [] [9] c4 c5 := by rw [e5]; exact cd_fr_add (cd_fr_refl _ _ _) (by simp) _
  have r59 : rsz c5 9 = 1 := by rw [e5, rAdd_sz (by omega), r49]
  have F59 : cRF c5 9 0 = vv 2 (nI 0) := by
    have := rAdd_Fe (s := c4) (r := 9) (v := vv 2 (nI 0))
    rw [r49] at this
    rw [e5]; exact this
  have hmk : f_X1_makeObject n c2 b 0 (nI o) = some (0, c5, b5) := by
    have hb5 : ble b5 b4 := ⟨d3, d4⟩
    unfold f_X1_makeObject
    rw [hcnt, bs_some]
    dsimp only
    have hbb := hb5.tr (j3.tr k3)
    refine c_ck ?_ hbb.1 hbb.2
    rw [if_pos (by decide), k1, bs_some]
    dsimp only
    have hb2 := hb5.tr j3
    refine c_ck ?_ hb2.1 hb2.2
    rw [show f_X1_makeObject_L26 n 0 (nI o) (nI 0) n c3 b3 0 = _ from j1, bs_some]
    dsimp only
    refine c_ck ?_ hb5.1 hb5.2
    rw [c_vv, bs_some]
    dsimp only
    unfold f_X1_push
    rw [show 9 + 1 * 0 = 9 from rfl, d1, bs_some]
    rw [c_ck (b := b4) (c_ck (fb := fun (q : (Int32 × cd_S × cd_B)) => q.2.2) (b := b5) rfl (Nat.le_refl _) (Nat.le_refl _)) hb5.1 hb5.2, bs_some]
    exact c_ck rfl (Nat.le_refl _) (Nat.le_refl _)
  -- it calls
  obtain ⟨c6, e6⟩ : ∃ z, z = cSI (cSI (cSI (cSP c5 238 0 (u + 1)) 239 0 0) 240 0 0) 241 0 (-1) := ⟨_, rfl⟩
  have f56 : cd_fr [238, 239, 240, 241] [] c5 c6 := by rw [e6]; exact cd_fr_SI (cd_fr_SI (cd_fr_SI (cd_fr_SP (cd_fr_refl _ _ _) (by simp) _ _) (by simp) (by decide) _ _) (by simp) (by decide) _ _) (by simp) (by decide) _ _
  have f26 : cd_fr [238, 239, 240, 241] [6, 7, 9] c2 c6 := cd_fr_tr (cd_fr_tr (cd_fr_tr k4 j4 (L3 := []) (R3 := [6, 7]) (fun _ z => ⟨z, z⟩) (fun _ z => by simp at z ⊢; omega)) f45 (L3 := []) (R3 := [6, 7, 9]) (fun _ z => ⟨z, z⟩) (fun _ z => by simp at z ⊢; omega)) f56 (fun _ z => ⟨by simp, z⟩) (fun _ z => ⟨z, by simp⟩)
  have hB6 : Bd C c6 b5 := d2.fr f56
  have I : ∀ f, f ∉ [238, 239, 240, 241] → f ≠ 193 → ∀ i, cI c6 f i = cI c2 f i := fun f h1 h2 i => cd_frI f26 h1 h2 i
  have hP5 : cP c5 50 0 = 1 := by rw [cd_frP f45 (by simp) (by decide), cd_frP j4 (by simp) (by decide), cd_frP k4 (by simp) (by decide)]; exact pP
  have hP6 : cP c6 50 0 = 1 := by rw [cd_frP f56 (by decide) (by decide)]; exact hP5
  have hcall : f_X7_call n c5 0 u 0 0 (-1) = some (0, c6) := by
    unfold f_X7_call
    rw [bs_some, bs_some, bs_some, bs_some, ← e6]
  have h238 : cd_dp c6 238 0 = some u := by
    rw [e6]
    unfold cd_dp
    show (if 1 ≤ u + 1 ∧ u + 1 ≤ cd_pool (cd_oc 238) then some (u + 1 - 1) else none) = some u
    have : cd_pool (cd_oc 238) = 60 := by decide
    rw [if_pos ⟨by omega, by omega⟩]; rfl
  -- all that both share
  obtain ⟨h0, eh0⟩ : ∃ z : HV, z = (rw, [], 0, 0) := ⟨_, rfl⟩
  have hrI : ∀ r : Bool, rI r = if r = true then 1 else 0 := fun r => rfl
  have hG : GLBT n mx d 0 c6 m2 c1 m1 D h0 [] 1 1 0 := by
    refine ⟨hP2.to (SK.fr f26 (md_fr_refl m2 []) (by decide) (by decide) (by simp)), ⟨by decide, ?_, q105⟩, ⟨?_, q89, ?_, q90, by omega, hmx, q101⟩, ⟨?_, ?_, ⟨0, Nat.le_refl _, ?_, q91, ?_, fun i hi => by omega⟩⟩, ⟨?_, ?_⟩, ⟨⟨⟨q130, fun x hx => ?_⟩, ⟨hB6.1 2 (by omega), hB6.1 3 (by omega), hB6.1 4 (by omega), ?_, ?_, ?_, fun k hk => absurd hk (by simp), fun k hk => absurd hk (by simp), fun k hk => absurd hk (by simp), fun y hy => ?_, fun k hk => absurd hk (by simp), by simp⟩, fun l hl => absurd hl (by simp), fun i j hj => absurd hj (by simp)⟩, by rw [eh0]; rfl, Nat.le_refl _⟩, fun _ => ⟨⟨hB6.1 5 (by omega), ?_, by omega, fun k hk => by omega⟩, by rw [eh0]⟩, trivial, ?_, q129⟩
    · rw [I 40 (by decide) (by decide)]; exact p40
    · rw [I 41 (by decide) (by decide)]; exact p41
    · rw [I 42 (by decide) (by decide)]; exact p42
    · rw [I 45 (by decide) (by decide), p45, q93]
    · rw [I 46 (by decide) (by decide), p46, q94]
    · rw [I 43 (by decide) (by decide)]; exact p43
    · rw [rsz_e (cd_frz f26 (by decide))]; exact p4 8 (by decide)
    · rw [I 49 (by decide) (by decide), p49, eh0]; rfl
    · rw [q87, eh0]; rfl
    · have hx0 : x = 0 := by simpa using hx
      subst hx0
      exact ⟨q131, (show (1 : Nat) ≤ 13 by decide), fun i hi => by
        have : i = 0 := by simpa using hi
        subst this
        exact q132⟩
    · rw [rsz_e (cd_frz f26 (by decide))]; exact p4 2 (by decide)
    · rw [rsz_e (cd_frz f26 (by decide))]; exact p4 3 (by decide)
    · rw [rsz_e (cd_frz f26 (by decide))]; exact p4 4 (by decide)
    · rw [cd_frA f26 (by decide) (by decide)]; exact p5 y hy
    · rw [rsz_e (cd_frz f26 (by decide))]; exact p4 5 (by decide)
    · rw [I 44 (by decide) (by decide)]; exact p44
  have h232 : cI c6 232 0 = nI 0 := by rw [I 232 (by decide) (by decide)]; exact p232
  have hfr : ∀ z : cd_S, cI z 232 0 = nI 0 → f_X7_nodeNow n z 0 = some (-1, z) ∧ f_X7_contextNow n z 0 = some (-1, z) := fun z hz => by
    unfold f_X7_nodeNow f_X7_contextNow f_X7_framed
    rw [hz]
    exact ⟨rfl, rfl⟩
  have h232' : cI (cSI c6 41 0 (nI (0 + 1))) 232 0 = nI 0 := by rw [cI_SIo (by decide)]; exact h232
  obtain ⟨nd, cx, h', Ls', c7, b7, m7, t1, t2, t3, t4, t5, t6, t7, t8, t9, t10, t11⟩ := beg_t (n := n) (t := 0) (T := 0) (me := 0) (DT := 0) (u := u) (s := 0) (nd := -1) (cx := -1) (xb := -1) (gv := -1) (mu := 0) hn hC hG hB6 (by omega) hu (hdp c6 hP6) h238 h232 (by decide) (hfr _ h232').1 (hfr _ h232').2 q127 (by decide) (by decide) q111 (Or.inl ⟨q111, rfl, rfl, rfl⟩) hm36 (by decide) (fun _ => Or.inl rfl) (Or.inl rfl) (by rw [e6, cI_SIe]) (fun z => absurd z (by decide))
  have hSU := hP2.2.2.2.2.2 u hu
  have hL210 := hSU.2.1.1
  have hL1 : 1 ≤ D.L u := by
    have := hSU.2.1.2
    rw [h36, if_pos rfl] at this
    omega
  -- the class enters
  obtain ⟨c8, b8, v1, v2, v3, v4, v5, v6⟩ := c_enter (n := n) (T := 0) (u := u) (L := D.L u) (dd := 0) (F := []) (xs := [vv 2 (nI 0)]) (nd := nd) (cx := cx) hn hC t4 (by decide) trivial (by rw [cd_frI t5 (by decide) (by decide)]; exact h232) (by decide) (by rw [dp_fr t5 (by decide) (by decide)]; exact h238) (by rw [cd_frI t5 (by decide) (by decide), I 288 (by decide) (by decide)]; exact u288) (by rw [cd_frI t5 (by decide) (by decide), e6, cI_SIo (by decide), cI_SIo (by decide), cI_SIe]; rfl) (by rw [cd_frI t5 (by decide) (by decide), e6, cI_SIo (by decide), cI_SIe]; rfl) (by rw [cd_frI t5 (by decide) (by decide), cd_frI t5 (by decide) (by decide), I 299 (by decide) (by decide), I 298 (by decide) (by decide)]; exact hSU.2.2.2.2.1.2.1) (by rw [rsz_e (cd_frz t5 (by decide)), rsz_e (cd_frz f56 (by simp)), r59]; rfl) (fun i hi => by
    have hi0 : i = 0 := by simpa using hi
    subst hi0
    rw [cd_frF t5 (by decide), cd_frF f56 (by simp)]
    exact F59) (by show 1 ≤ D.L u; exact hL1) (by show 0 + 0 + D.L u < 32768; omega)
  obtain ⟨c9, e9⟩ : ∃ z, z = cSI c8 45 0 (if cI c8 45 0 < cI c8 232 0 then cI c8 232 0 else cI c8 45 0) := ⟨_, rfl⟩
  have hP7 : cP c7 50 0 = 1 := by rw [cd_frP t5 (by decide) (by decide)]; exact hP6
  have hP8 : cP c8 50 0 = 1 := by rw [cd_frP v5.1 (by decide) (by decide)]; exact hP7
  have hP9 : cP c9 50 0 = 1 := by rw [e9]; exact hP8
  have hbeg : f_X1_begin n c6 b5 0 = some (0, c9, b8) := by
    refine t1 _ ?_ v3
    unfold f_X1_begin_J110
    rw [hdp c7 hP7, bs_some, v1, bs_some]
    refine c_ck ?_ (Nat.le_refl _) (Nat.le_refl _)
    dsimp only
    rw [hdp c8 hP8, bs_some, bs_some, ← e9, hdp c9 hP9, bs_some, if_pos rfl]
  have hble : ble b8 b5 := v3.tr t3
  have hb5b : ble b5 b := (show ble b5 b4 from ⟨d3, d4⟩).tr (j3.tr k3)
  have hprep : f_X1_prepare n c b u a2 (nI mx) (rI rw) = some (0, c9, b8) := by
    rw [p1]
    have hbb := hble.tr hb5b
    refine c_ck ?_ hbb.1 hbb.2
    rw [o2, hmk, bs_some]
    refine c_ck ?_ hble.1 hble.2
    dsimp only
    rw [hdp c5 hP5, bs_some, hcall, bs_some]
    dsimp only
    rw [hdp c6 hP6, bs_some, hbeg, bs_some]
    exact c_ck rfl (Nat.le_refl _) (Nat.le_refl _)
  -- the model enters
  have hM7 : TM m7 0 h0.1 D.cb [] := by
    have A : ∀ g i, g ∉ [89, 101, 102, 103, 104, 130, 131, 132, 133, 134] → mA m7 g i = mA m2 g i := fun g i hg => md_frA t6 hg i
    exact ⟨⟨by rw [A 111 0 (by decide)]; exact q111, by decide, by rw [A 117 0 (by decide)]; exact q117, by rw [A 123 0 (by decide)]; exact q123, ⟨by decide, by decide, by decide⟩, trivial⟩, by rw [A 120 0 (by decide)]; exact q120⟩
  have hSU7 := t7.1.2.2.2.2.2 u hu
  obtain ⟨m8, w1, w2, w3, w4, w5, w6⟩ := m_enter (n := n) (T := 0) (u := u) (L := D.L u) (st := 0) (dd := 0) (nd := nd) (cx := cx) (rw := h0.1) (F := []) hn (by decide) hu60 hM7 (by decide) (by show 0 + D.L u ≤ 12600; omega) hSU7.2.2.2.2.1.2.2 hSU7.2.2.2.1.1 (fun z => (t10 z).1)
  have I8 : ∀ f, f ∉ [93, 108, 111, 112, 113, 114, 115, 116, 117, 118, 119] → f ∉ [89, 101, 102, 103, 104, 130, 131, 132, 133, 134] → mI m8 f = mI m2 f := fun f h1 h2 => by rw [md_frI w3 h1, md_frI t6 h2]
  have A8 : ∀ f i, f ∉ [93, 108, 111, 112, 113, 114, 115, 116, 117, 118, 119] → f ∉ [89, 101, 102, 103, 104, 130, 131, 132, 133, 134] → mA m8 f i = mA m2 f i := fun f i h1 h2 => by rw [md_frA w3 h1, md_frA t6 h2]
  have hP8m : PG n c7 m8 d c1 m1 D := t7.1.to (SK.fr (cd_fr_refl c7 [] []) w3 (by simp) (by simp) (by decide))
  obtain ⟨m9, i1, i2, i3, i4, i5, i6, i7, i8⟩ := m_newThing (n := n) (o := o) (N := N) (H := 0) (T := 0) (m := m8) hn (by omega) (by omega) (by decide) (by rw [I8 95 (by decide) (by decide)]; exact q95) (by rw [I8 98 (by decide) (by decide)]; exact q98)
  have hobj : f_X12_newObject n m8 (nI o) = some (nI 0, m9) := by
    unfold f_X12_newObject
    rw [fab (by omega) hP8m.md o1, bs_some]
    dsimp only
    have e71 : cAr c7 71 0 o = nI β := by rw [cd_frA t5 (by decide) (by decide), cd_frA f26 (by decide) (by decide), ← cd_frA k4 (by simp) (by decide)]; exact N4
    rw [m_ld28 (by omega), bs_some, e71, A8 28 o (by decide) (by decide), N5, nI_add, ← N6, i1, bs_some]
  have hM9 : TM m9 0 h0.1 D.cb [((u, 0, 0), (nd, cx), nones (D.L u), [])] := w2.mag (MAG.fr i2 (by decide))
  obtain ⟨m10, l1, l2, l3⟩ := loc1 (n := n) (t := 0) (L := D.L u) (i := 0) (xs := [vv 2 (nI 0)]) (g := ((u, 0, 0), (nd, cx), nones (D.L u), [])) (R := []) (by decide) (by exact hM9) (by decide) hL1
  have hl1 : f_X12_setLocal n m9 0 0 0 2 (nI 0) = some (0, m10) := by
    have e1 : vS ([vv 2 (nI 0)][0]) = 2 := vv_hi _ _
    have e2 : mv h0.1 ([vv 2 (nI 0)][0]) = nI 0 := by
      show mv h0.1 (vv 2 (nI 0)) = nI 0
      rw [mv_n4 (by rw [vv_hi]; decide), vv_lo]
    rw [e1, e2] at l1
    exact l1
  obtain ⟨f0, ef0⟩ : ∃ z : FR, z = ((u, 0, 0), (nd, cx), [vv 2 (nI 0)] ++ nones (D.L u - 1), []) := ⟨_, rfl⟩
  have hM10 : TM m10 0 h0.1 D.cb [f0] := by rw [ef0]; exact l2
  obtain ⟨m11, e11⟩ : ∃ z, z = mSI m10 128 1 := ⟨_, rfl⟩
  have hmod : f_X12_run_J74 n m (nI u) a2 (nI mx) (rI rw) 0 = (Option.bind (f_X12_run_L212 n a2 n m11 a2 1) fun q31 => if (mI q31.1 129) = 0 then (Option.bind (f_X12_going n q31.1 ) fun p32 => if p32.1 ≤ 0 then (f_X12_run_J323 n p32.2 0) else (f_X12_run_J323 n p32.2 1)) else (f_X12_run_J323 n q31.1 2)) := by
    rw [q1, show f_X12_begin n m2 0 (nI u) 0 = _ from t2.trans w1, bs_some]
    dsimp only
    rw [m_ld37 hu60, bs_some, A8 37 u (by decide) (by decide), o3, hobj, bs_some]
    dsimp only
    rw [hl1, bs_some, bs_some, ← e11]
  -- things
  obtain ⟨h2, eh2⟩ : ∃ z : HV, z = (h'.1, h'.2.1 ++ [(true, o, 0)], h'.2.2) := ⟨_, rfl⟩
  have fm811 : md_fr [95, 96, 97, 98, 99, 100, 118, 119, 128] m8 m11 := by
    rw [e11]
    exact md_fr_SI (md_fr_tr i2 l3.1 (fun k hk => ⟨nin (by decide) hk, nin (by decide) hk⟩)) (by simp) _
  have E11 : ∀ f i, f ∉ [118, 119] → mA m11 f i = mA m9 f i := fun f i hf => by rw [e11, mA_SI, md_frA l3.1 hf]
  have EI11 : ∀ f, f ≠ 128 → f ∉ [118, 119] → mI m11 f = mI m9 f := fun f hf h1 => by rw [e11, mI_SIo hf, md_frI l3.1 h1]
  have f29 : cd_fr [3, 4, 5, 41, 45, 224, 225, 226, 227, 228, 229, 232, 233, 238, 239, 240, 241] [2, 3, 4, 5, 6, 7, 9] c2 c9 := by
    rw [e9]
    exact cd_fr_SI (cd_fr_tr (cd_fr_tr f26 t5 (L3 := [3, 4, 5, 41, 238, 239, 240, 241]) (R3 := [2, 3, 4, 5, 6, 7, 9]) (fun _ z => by simp at z ⊢; omega) (fun _ z => by simp at z ⊢; omega)) v5.1 (fun _ z => by simp at z ⊢; omega) (fun _ z => by simp at z ⊢; omega)) (by simp) (by decide) _ _
  have f49 : cd_fr [3, 4, 5, 41, 45, 224, 225, 226, 227, 228, 229, 232, 233, 238, 239, 240, 241] [2, 3, 4, 5, 9] c4 c9 := by
    rw [e9]
    exact cd_fr_SI (cd_fr_tr (cd_fr_tr (cd_fr_tr f45 f56 (L3 := [238, 239, 240, 241]) (R3 := [9]) (fun _ z => ⟨by simp, z⟩) (fun _ z => ⟨z, by simp⟩)) t5 (L3 := [3, 4, 5, 41, 238, 239, 240, 241]) (R3 := [2, 3, 4, 5, 9]) (fun _ z => by simp at z ⊢; omega) (fun _ z => by simp at z ⊢; omega)) v5.1 (fun _ z => by simp at z ⊢; omega) (fun _ z => by simp at z ⊢; omega)) (by simp) (by decide) _ _
  have h1' : h'.1 = h0.1 := t8.1
  have h2' : h'.2.1 = [] := by rw [t9, eh0]
  have hHP0 : HP c2 m8 h' c1 m1 d := ⟨0, ⟨by rw [h2']; exact p4 6 (by decide), by rw [h2']; decide, by rw [h2', I8 95 (by decide) (by decide)]; exact q95, p4 7 (by decide), by rw [I8 98 (by decide) (by decide)]; exact q98, Nat.zero_le _⟩, fun i bo o' a hi => by rw [h2'] at hi; simp at hi, fun j hj => by omega⟩
  obtain ⟨hHP, hle2⟩ := hHP0.add (c' := c9) (m' := m11) (T := 0) (H := 0) (N := N) (o := o) (bo := true) (by rw [h2']; rfl) (by decide) (p4 7 (by decide)) N1 ⟨fun _ => ⟨o1, by omega⟩, fun z => absurd z (by decide)⟩ (by rw [rsz_e (cd_frz f49 (by decide)), rsz_e (cd_frz j4 (by decide))]; exact k5) (by rw [cd_frF f49 (by decide), cd_frF j4 (by decide)]; exact k6) (by rw [cd_frF f49 (by decide), cd_frF j4 (by decide)]; exact k7) (fun j hj => by omega) (by rw [rsz_e (cd_frz f49 (by decide)), j5, r37]) (fun j hj => by omega) (by rw [EI11 95 (by decide) (by decide)]; exact i3) (by rw [EI11 98 (by decide) (by decide)]; exact i4) (fun q => by rw [E11 96 q (by decide)]; exact i5 q) (fun q => by rw [E11 97 q (by decide)]; exact i6 q) (fun j hj => by omega) (fun j a z => by
    rw [E11 99 j (by decide), E11 100 j (by decide), i7, if_pos ⟨a, z⟩, i8, if_pos ⟨a, z⟩, cd_frF f49 (by decide), j7 j (by omega) (by omega)]
    exact ⟨vN_hi.symm, by rw [mv_n4 (by rw [vN_hi]; decide), vN_lo], VOK.none h'⟩)
  rw [← eh2] at hHP hle2
  have e21 : h2.1 = h'.1 := by rw [eh2]
  have e22 : h2.2.2 = h'.2.2 := by rw [eh2]
  -- what is common
  have f79 : cd_fr [45, 224, 225, 226, 227, 228, 229, 232, 233] [9] c7 c9 := by
    rw [e9]; exact cd_fr_SI (cd_fr_mono v5.1 (by decide) (by decide)) (by simp) (by decide) _ _
  have g711 : md_fr [93, 95, 96, 97, 98, 99, 100, 108, 111, 112, 113, 114, 115, 116, 117, 118, 119, 128] m7 m11 := md_fr_tr w3 fm811 (fun _ z => by simp at z ⊢; omega)
  have hB9 : Bd C c9 b8 := by rw [e9]; exact v2.SI (by decide) _ _
  have hG9 : GLB n mx d 0 c9 m11 c1 m1 D h2 Ls' 1 1 := by
    obtain ⟨g1, ⟨g2, g3, g4⟩, ⟨g5, g6, g7, g8, g9, g10, g11⟩, ⟨g12, g13, g14⟩, ⟨g15, g16⟩, ⟨g17, g18, g19⟩, g20, -, g22, g23⟩ := t7
    have cI' : ∀ f, f ∉ [45, 224, 225, 226, 227, 228, 229, 232, 233] → f ≠ 193 → cI c9 f 0 = cI c7 f 0 := fun f a b => cd_frI f79 a b 0
    have mI' : ∀ f, f ∉ [93, 95, 96, 97, 98, 99, 100, 108, 111, 112, 113, 114, 115, 116, 117, 118, 119, 128] → mI m11 f = mI m7 f := fun f a => md_frI g711 a
    refine ⟨g1.to (SK.fr f79 g711 (by decide) (by decide) (by decide)), ⟨g2, ?_, ?_⟩, ⟨?_, ?_, ?_, ?_, g9, g10, ?_⟩, ⟨?_, ?_, g14.fr f79 g711 (by decide) (by decide) (by decide)⟩, ⟨?_, ?_⟩, ⟨g17.fr f79 g711 (by decide) (by decide) (by decide), by rw [e22]; exact g18, g19⟩, fun z => ?_, hHP, ?_, ?_⟩
    · rw [cI' 40 (by decide) (by decide)]; exact g3
    · rw [mI' 105 (by decide)]; exact g4
    · rw [cI' 41 (by decide) (by decide)]; exact g5
    · rw [mI' 89 (by decide)]; exact g6
    · rw [cI' 42 (by decide) (by decide)]; exact g7
    · rw [mI' 90 (by decide)]; exact g8
    · rw [mI' 101 (by decide)]; exact g11
    · rw [e9, cI_SIe, md_frI fm811 (by decide), w6, v4.1, cd_frI v5.1 (by decide) (by decide), g12]; rfl
    · rw [cI' 46 (by decide) (by decide), mI' 94 (by decide)]; exact g13
    · rw [cI' 49 (by decide) (by decide), e21]; exact g15
    · rw [mI' 87 (by decide), e21]; exact g16
    · rw [e21] at z
      exact ⟨(g20 z).1.fr f79 g711 (by decide) (by decide), by rw [e22]; exact (g20 z).2⟩
    · rw [cI' 44 (by decide) (by decide)]; exact g22
    · rw [mI' 129 (by decide)]; exact g23
  have I29 : ∀ f, f ∉ [3, 4, 5, 41, 45, 224, 225, 226, 227, 228, 229, 232, 233, 238, 239, 240, 241] → f ≠ 193 → cI c9 f 0 = cI c2 f 0 := fun f a b => cd_frI f29 a b 0
  have A29 : ∀ f i, f ∉ [93, 95, 96, 97, 98, 99, 100, 108, 111, 112, 113, 114, 115, 116, 117, 118, 119, 128] → f ∉ [89, 101, 102, 103, 104, 130, 131, 132, 133, 134] → mA m11 f i = mA m2 f i := fun f i h1 h2 => by rw [md_frA g711 h1, md_frA t6 h2]
  have hR9 : REST n mx d 0 c9 m11 c1 m1 D h2 Ls' 1 1 0 (fun _ => []) := by
    refine ⟨hG9, ⟨by decide, ?_, by rw [e11, mI_SIe], ?_, ⟨?_, ?_, ?_, Or.inl ?_, Or.inl ⟨?_, ?_⟩⟩, ?_, ?_⟩, fun x hx hx0 => by omega⟩
    · rw [md_frI g711 (by decide), md_frI t6 (by decide)]; exact q127
    · rw [I29 231 (by decide) (by decide)]; exact p231
    · rw [I29 234 (by decide) (by decide), A29 106 0 (by decide) (by decide), p234, q106]
    · rw [e9, cI_SIo (by decide), v6, cd_frI t5 (by decide) (by decide), I 233 (by decide) (by decide), p233, md_frA fm811 (by decide), w5, md_frA t6 (by decide), q108]
    · rw [I29 235 (by decide) (by decide), A29 107 0 (by decide) (by decide), p235, q107]
    · rw [A29 107 0 (by decide) (by decide)]; exact q107
    · rw [A29 106 0 (by decide) (by decide)]; exact q106
    · rw [cd_frJ f29 (by decide) (by decide), p236]; decide
    · rw [A29 106 0 (by decide) (by decide)]; exact q106
    · rw [A29 107 0 (by decide) (by decide)]; exact q107
  have hT9 : TC c9 0 [f0] := by
    rw [ef0]
    exact v4.sag (by rw [e9]; exact SAG.fr (cd_fr_SI (cd_fr_refl c8 [45] []) (by simp) (by decide) _ _) (by decide) (by simp))
  have hM11 : TM m11 0 h2.1 D.cb [f0] := by
    rw [e21, h1', e11]
    exact hM10.mag (MAG.fr (L := [128]) (md_fr_SI (md_fr_refl _ _) (by simp) _) (by decide))
  obtain ⟨e0, x0⟩ := hSU.1.start
  have hF : FTS h2 m1 D [] [f0] := by
    rw [ef0]
    refine ⟨⟨hu, ?_, fun v hv => ?_, Nat.zero_le _, fun z => ?_, ?_⟩, ⟨[], e0, x0, trivial⟩, trivial⟩
    · show ([vv 2 (nI 0)] ++ nones (D.L u - 1)).length = D.L u
      rw [List.length_append]; unfold nones; rw [List.length_replicate, List.length_singleton]; omega
    · have hv' : v ∈ [vv 2 (nI 0)] ++ nones (D.L u - 1) := hv
      rcases List.mem_append.mp hv' with z | z
      · rw [List.mem_singleton.mp z]
        exact Or.inr (Or.inr (Or.inl ⟨vv_hi _ _, 0, o, 0, vv_lo _ _, by rw [eh2, h2']; rfl⟩))
      · unfold nones at z
        rw [List.eq_of_mem_replicate z]; exact VOK.none h2
    · rw [e21, h1'] at z
      obtain ⟨z1, z2⟩ := t10 z
      exact ⟨0, by rw [e22]; exact z2, z1⟩
    · rw [e22]; exact t11
  refine ⟨h2, Ls', c9, b8, m11, f0, hprep, hble.tr hb5b, hmod, ⟨hR9, hB9, hT9, hM11, hF⟩, ?_⟩
  have hz2 := rm_le D u 0
  have hz3 := hSU.2.2.2.2.2.2.2
  rw [ef0]
  show rm D u 0 + 1 + 0 ≤ 3302
  omega
