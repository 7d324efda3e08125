/-! a run, whole, given the plan for the machine -/
theorem goe_t {n mx d : Nat} {C : Nat × Nat} {c c1 : cd_S} {b : cd_B} {m m1 : md_S} {D : PD} {h : HV} {Ls : List (List Int32)} {f : FR} (l2 l7 : Int32) (hn : 60000000 ≤ n) (hC : BC C) (hr : RR n mx d 0 C c b m c1 m1 D h Ls 1 1 0 (fun _ => []) [f]) (hM : MU D mx 1 (upF (fun _ => []) 0 [f]) 1 < 15000000) : TRN n mx d C c b m c1 m1 D 0 l2 l7 (MU D mx 1 (upF (fun _ => []) 0 [f]) 1) (2 * MU D mx 1 (upF (fun _ => []) 0 [f]) 1) := by
  have ha : ASKS n mx d C c1 m1 D := asks_all (by omega) hC
  have hle : μ D mx [f] 1 ≤ MU D mx 1 (upF (fun _ => []) 0 [f]) 1 := mu_le (D := D) (mx := mx) (st := 1) (Fs := upF (fun _ => []) 0 [f]) (t := 0) (by decide)
  obtain ⟨c', b', m', l', g1, g2, g3, g4⟩ := go_ok (n := n) (l2 := l2) (l7 := l7) (by omega) hC ha (μ D mx [f] 1) 0 1 1 0 c b m h Ls (fun _ => []) [f] n n (Nat.le_refl _) hr (by simp) (by omega) (by omega) (by omega) (by omega)
  rw [Nat.zero_add] at g4
  refine ⟨h, c', b', m', ?_, g2, g3, g4⟩
  unfold f_X1_goThread
  refine c_ck ?_ g2.1 g2.2
  have h235 : cI c 235 0 = -1 := by rw [hr.1.2.1.2.2.2.2.1.2.2.1]; exact hr.1.2.1.2.2.2.2.2.2
  rw [h235, if_pos rfl]
  unfold f_X1_goThread_J31
  rw [show f_X1_goThread_L33 n 0 n c b 0 0 = _ from g1, bs_some]
  exact c_ck rfl (Nat.le_refl _) (Nat.le_refl _)
theorem THT.cm {c c' : cd_S} {m m' : md_S} {K t : Nat} (h : THT c m K t) (hc : cd_fr [44] [] c c') (hm : md_fr [88] m m') : THT c' m' K t := h.fr hc hm (by decide) (by decide)
theorem EVT.cm {c c' : cd_S} {m m' : md_S} {E : Nat} (h : EVT c m E) (hc : cd_fr [44] [] c c') (hm : md_fr [88] m m') : EVT c' m' E := by
  obtain ⟨h1, h2, h3, ⟨z, z1, z2, z3⟩, h5⟩ := h
  exact ⟨h1.of (cd_frz hc (by simp)) (cd_frC hc (by simp)), by rw [rsz_e (cd_frz hc (by simp))]; exact h2, h3, ⟨z, z1, by rw [md_frI hm (by decide)]; exact z2, z3⟩, fun i hi => by rw [cd_frF hc (by simp), md_frA hm (by decide)]; exact h5 i hi⟩
/-- the end is written down -/
theorem ends_ok {n mx d : Nat} {C : Nat × Nat} {c c1 : cd_S} {b : cd_B} {m m1 : md_S} {D : PD} (hn : 100 ≤ n) (h : ENDS n mx d C c b m c1 m1 D) : ∃ v c' m', (if (cI c 44 0) = (2 : Int32) then (f_X1_goOn_J71 n c b) else (Option.bind (f_X1_allEnded n c ) fun p8 => if p8.1 = 0 then (f_X1_goOn_J68 n p8.2 b 1) else (f_X1_goOn_J68 n p8.2 b 0))) = some (v, c', b) ∧ (if (mI m 129) = 0 then (Option.bind (f_X12_going n m ) fun p32 => if p32.1 ≤ 0 then (f_X12_run_J323 n p32.2 0) else (f_X12_run_J323 n p32.2 1)) else (f_X12_run_J323 n m 2)) = some (v, m') ∧ RT c' m' ∧ Bd C c' b ∧ PG n c' m' d c1 m1 D := by
  have fin : ∀ (v : Int32) (c' : cd_S), cd_fr [44] [] c c' → cI c' 44 0 = v → PG n c m d c1 m1 D → Bd C c b → (cI c 41 0 = mI m 89 ∧ cI c 43 0 = mI m 91 ∧ cI c 45 0 = mI m 93 ∧ cI c 46 0 = mI m 94) → (∃ K, K ≤ 8 ∧ cI c 40 0 = nI K ∧ mI m 105 = nI K ∧ ∀ t, t < K → THT c m K t) → (∃ T, T ≤ 2000 ∧ cI c 193 6 = nI (2 * T) ∧ mI m 95 = nI T) → (∃ E, EVT c m E) → (∃ Ls, CTX c m Ls ∧ Ls.length < 4001) → RT c' (mSI m 88 v) ∧ Bd C c' b ∧ PG n c' (mSI m 88 v) d c1 m1 D := by
    intro v c' fc hv hP hB ⟨a1, a2, a3, a4⟩ ⟨K, k1, k2, k3, k4⟩ ⟨T, t1, t2, t3⟩ ⟨E, e1⟩ ⟨Ls, l1, l2⟩
    have fm : md_fr [88] m (mSI m 88 v) := md_fr_SI (md_fr_refl _ _) (by simp) _
    refine ⟨⟨⟨by rw [hv, mI_SIe], ?_, ?_, ?_, ?_⟩, ⟨K, k1, ?_, ?_, fun t ht => (k4 t ht).cm fc fm⟩, ⟨T, t1, ?_, ?_⟩, ⟨E, e1.cm fc fm⟩, ⟨Ls, l1.fr fc fm (by decide) (by simp) (by decide), l2⟩⟩, hB.fr fc, hP.to (SK.fr fc fm (by decide) (by simp) (by decide))⟩
    · rw [cd_frI fc (by decide) (by decide), md_frI fm (by decide)]; exact a1
    · rw [cd_frI fc (by decide) (by decide), md_frI fm (by decide)]; exact a2
    · rw [cd_frI fc (by decide) (by decide), md_frI fm (by decide)]; exact a3
    · rw [cd_frI fc (by decide) (by decide), md_frI fm (by decide)]; exact a4
    · rw [cd_frI fc (by decide) (by decide)]; exact k2
    · rw [md_frI fm (by decide)]; exact k3
    · rw [cd_frz fc (by simp)]; exact t2
    · rw [md_frI fm (by decide)]; exact t3
  rcases h with ⟨hP, hB, z44, z129, z128, h1, h2, h3, h4, h5⟩ | ⟨Z, h, Ls, K, st, Fs, ⟨hG, hB, h128, hT⟩, -, hZ⟩
  · obtain ⟨f1, f2, f3⟩ := fin 2 c (cd_fr_refl _ _ _) z44 hP hB h1 h2 h3 h4 h5
    refine ⟨2, c, mSI m 88 2, ?_, ?_, f1, f2, f3⟩
    · rw [if_pos z44]
      unfold f_X1_goOn_J71
      rw [z44]
    · rw [z129, if_neg ne10]
      unfold f_X12_run_J323
      rw [bs_some, mI_SIe]
  · obtain ⟨g1, ⟨g2, g3, g4⟩, ⟨g5, g6, g7, g8, g9, g10, g11⟩, ⟨g12, g13, g14⟩, -, ⟨g17, g18, g19⟩, -, g20, g21, g22⟩ := hG
    have hTT : ∀ x, x < K → THT c m K x := fun x hx => (hT x hx).tht
    obtain ⟨a1, a2⟩ := ended_ok (n := n) hn g2 g3 g4 hTT
    have hev : ∃ E, EVT c m E := by
      obtain ⟨z, z1, z2, z3, z4, z5⟩ := g14
      exact ⟨min z 200, hB.1 8 (by omega), z4, by omega, ⟨z, by omega, z3, rfl⟩, z5⟩
    have h43 : cI c 43 0 = mI m 91 := by
      obtain ⟨z, z1, z2, z3, -⟩ := g14
      rw [z2, z3]
    have hT6 : ∃ T, T ≤ 2000 ∧ cI c 193 6 = nI (2 * T) ∧ mI m 95 = nI T := by
      obtain ⟨H, ⟨b1, b2, b3, -⟩, -⟩ := g20
      exact ⟨h.2.1.length, b2, by rw [(hB.1 6 (by omega)).1, b1], b3⟩
    have hfin : ∀ v : Int32, RT (cSI c 44 0 v) (mSI m 88 v) ∧ Bd C (cSI c 44 0 v) b ∧ PG n (cSI c 44 0 v) (mSI m 88 v) d c1 m1 D := fun v => fin v (cSI c 44 0 v) (cd_fr_SI (cd_fr_refl _ _ _) (by simp) (by decide) _ _) cI_SIe g1 hB ⟨by rw [g5, g6], h43, g12, g13⟩ ⟨K, g2, g3, g4, hTT⟩ hT6 hev ⟨Ls, g17, by omega⟩
    have hnl := ngo_le m K
    by_cases q : ngo m K = 0
    · obtain ⟨f1, f2, f3⟩ := hfin 0
      refine ⟨0, _, _, ?_, ?_, f1, f2, f3⟩
      · rw [g21, if_neg (show ¬ (0 : Int32) = 2 by decide), a1, bs_some]
        dsimp only
        rw [if_pos q, if_neg ne10]
        unfold f_X1_goOn_J68 f_X1_goOn_J71
        rw [bs_some, cI_SIe]
      · rw [g22, if_pos rfl, a2, bs_some]
        dsimp only
        rw [q, if_pos (show nI 0 ≤ (0 : Int32) by decide)]
        unfold f_X12_run_J323
        rw [bs_some, mI_SIe]
    · obtain ⟨f1, f2, f3⟩ := hfin 1
      refine ⟨1, _, _, ?_, ?_, f1, f2, f3⟩
      · rw [g21, if_neg (show ¬ (0 : Int32) = 2 by decide), a1, bs_some]
        dsimp only
        rw [if_neg q, if_pos rfl]
        unfold f_X1_goOn_J68 f_X1_goOn_J71
        rw [bs_some, cI_SIe]
      · rw [g22, if_pos rfl, a2, bs_some]
        dsimp only
        rw [if_neg (show ¬ nI (ngo m K) ≤ (0 : Int32) from fun z => absurd ((nI_leI (b := 0) (by omega) (by decide)).mp z) (by omega))]
        unfold f_X12_run_J323
        rw [bs_some, mI_SIe]
theorem run_core {n mx d u : Nat} {C : Nat × Nat} {c c1 : cd_S} {b : cd_B} {m m1 : md_S} {D0 : PD} {a2 : Int32} {rw : Bool} (hn : 60000000 ≤ n) (hC : BC C) (hP : PG n c m d c1 m1 D0) (hB : Bd C c b) (hu : u < mN m1 35) (h36 : mA m1 36 u = 0) (hmx1 : 1 ≤ mx) (hmx : mx ≤ 4000) :
    ∃ cp bp v c' b' m' D, f_X1_prepare n c b u a2 (nI mx) (rI rw) = some (0, cp, bp) ∧ f_X1_goOn n cp bp = some (v, c', b') ∧ ble bp b ∧ ble b' bp ∧ f_X12_run_J74 n m (nI u) a2 (nI mx) (rI rw) 0 = some (v, m') ∧ RT c' m' ∧ Bd C c' b' ∧ PG n c' m' d c1 m1 D ∧ cd_fr [47, 48, 51] [] c D.cS ∧ cI D.cS 51 0 = 1 ∧ D.mS = mK m := by
  obtain ⟨h, Ls, cp, bp, mp, f, e1, e2, e3, e4, e5⟩ := start_run (n := n) (a2 := a2) (rw := rw) (by omega) hC hP hB hu h36 hmx1 hmx
  obtain ⟨D1, eD⟩ : ∃ D1, D1 = Dst D0 (cK c a2) (mK m) := ⟨_, rfl⟩
  rw [← eD] at e4 e5
  have hMU : MU D1 mx 1 (upF (fun _ => []) 0 [f]) 1 < 15000000 := by
    have e : MU D1 mx 1 (upF (fun _ => []) 0 [f]) 1 = (mx - 1) * 3303 + μF D1 [f] := by
      unfold MU
      show (mx - 1) * 3303 + (0 + μF D1 (upF (fun _ => []) 0 [f] 0)) = _
      rw [Nat.zero_add]; rfl
    rw [e]
    have : (mx - 1) * 3303 ≤ 3999 * 3303 := Nat.mul_le_mul_right _ (by omega)
    omega
  have hcS : D1.cS = cK c a2 := by rw [eD]; rfl
  have hmS : D1.mS = mK m := by rw [eD]; rfl
  have htr := goe_t (n := n) a2 a2 hn hC e4 hMU
  obtain ⟨D', c', b', m', l', r', g1, g2, g3, g4, g5, g6⟩ := loop_ok (n := n) (l2 := a2) hn hC (MU D1 mx 1 (upF (fun _ => []) 0 [f]) 1) D1 cp bp mp 0 0 (MU D1 mx 1 (upF (fun _ => []) 0 [f]) 1) (2 * MU D1 mx 1 (upF (fun _ => []) 0 [f]) 1) n n a2 (Nat.le_refl _) htr (by decide) (by rw [hcS]; rfl) (by rw [hcS]; rfl) (by omega) hMU (by omega) (by omega) (by omega)
  obtain ⟨v, c2, m2, k1, k2, k3, k4, k5⟩ := ends_ok (n := n) (by omega) g4
  refine ⟨cp, bp, v, c2, b', m2, D', e1, ?_, e2, g2, ?_, k3, k4, k5, ?_, ?_, g6.trans hmS⟩
  · unfold f_X1_goOn
    refine c_ck ?_ g2.1 g2.2
    rw [show f_X1_goOn_L4 n n cp bp 0 0 = _ from g1, bs_some]
    refine c_ck ?_ (Nat.le_refl _) (Nat.le_refl _)
    dsimp only
    exact k1
  · rw [e3, g3, bs_some]
    exact k2
  · have h0 := cK_fr c a2
    rw [← hcS] at h0
    exact cd_fr_tr h0 g5 (fun _ z => ⟨z, fun y => z (by simp at y ⊢; omega)⟩) (fun _ z => ⟨z, z⟩)
  · rw [cd_frI g5 (by decide) (by decide), hcS]; rfl
