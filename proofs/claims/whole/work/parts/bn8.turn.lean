/-! a thread's turn: from rest to rest -/
theorem rsum_ge {f : Nat → Nat} {t N : Nat} (h : t < N) : f t ≤ rsum f N := by
  have := rsum_upd (f := f) (g := fun i => if i = t then 0 else f i) (r := t) (fun i hi => if_neg hi) h
  rw [if_pos rfl] at this
  omega
theorem upF_self (Fs : Nat → List FR) (t : Nat) : upF Fs t (Fs t) = Fs := by
  funext x
  unfold upF
  by_cases q : x = t
  · rw [if_pos q, q]
  · rw [if_neg q]
theorem mu_le {D : PD} {mx K st t : Nat} {Fs : Nat → List FR} (ht : t < K) : μ D mx (Fs t) st ≤ MU D mx K Fs st := by
  have := rsum_ge (f := fun x => μF D (Fs x)) ht
  unfold μ MU
  exact Nat.add_le_add_left this _
/-- another list of frames of the same measure, or less -/
theorem MU_set {D : PD} {mx K st t : Nat} {Fs : Nat → List FR} {F : List FR} (ht : t < K) (h : μF D F ≤ μF D (Fs t)) : MU D mx K (upF Fs t F) st ≤ MU D mx K Fs st ∧ μ D mx F st ≤ MU D mx K Fs st ∧ (μF D F < μF D (Fs t) → MU D mx K (upF Fs t F) st < MU D mx K Fs st ∧ μ D mx F st < MU D mx K Fs st) := by
  have h1 := rsum_upd (f := fun x => μF D (Fs x)) (g := fun x => μF D (upF Fs t F x)) (r := t) (fun i hi => by show μF D (if i = t then F else Fs i) = _; rw [if_neg hi]) ht
  have e : μF D (upF Fs t F t) = μF D F := by show μF D (if t = t then F else Fs t) = _; rw [if_pos rfl]
  rw [e] at h1
  have h2 := rsum_ge (f := fun x => μF D (Fs x)) ht
  unfold MU μ
  exact ⟨Nat.add_le_add_left (by omega) _, Nat.add_le_add_left (by omega) _, fun z => ⟨Nat.add_lt_add_left (by omega) _, Nat.add_lt_add_left (by omega) _⟩⟩
theorem RSTS.rest {n mx d Z K st t : Nat} {L G : List Nat} {C : Nat × Nat} {c c' c1 : cd_S} {b : cd_B} {m m' m1 : md_S} {D : PD} {h : HV} {Ls : List (List Int32)} {Fs : Nat → List FR} (hr : RSTS n mx d Z C c b m c1 m1 D h Ls K st Fs) (ht : t < K) (h106 : mA m 106 t = 0) (hc : OPC [235] t c c') (hm : OPM [107, 127, 128] t m m') (h127 : mI m' 127 = nI t) (h128 : mI m' 128 = 1) (h235 : cI c' 235 t = -1) (h107 : mA m' 107 t = -1) : REST n mx d Z c' m' c1 m1 D h Ls K st t Fs := by
  obtain ⟨hG, hB, -, hT⟩ := hr
  have hK := hG.2.1.1
  obtain ⟨a1, ⟨a2, a3, a4, a5, a6⟩, a7, a8⟩ := hT t ht
  refine ⟨hG.fr3 hc.1 hm.1 (by decide) (fun r hr => by have := List.mem_singleton.mp hr; omega) (by decide) (by decide) (by decide) (hG.2.2.2.1.2.2.fr hc.1 hm.1 (by decide) (by simp; omega) (by decide)), ⟨ht, h127, h128, ?_, ⟨?_, ?_, ?_, Or.inl h107, ?_⟩, ?_, h107⟩, fun x hx hxt => (hT x hx).sag (hc.2 x hxt) (hm.2 x hxt) (HVle.refl h)⟩
  · rw [cd_frI hc.1 (by decide) (by decide)]; exact a1
  · rw [cd_frI hc.1 (by decide) (by decide), md_frA hm.1 (by decide)]; exact a2
  · rw [cd_frI hc.1 (by decide) (by decide), md_frA hm.1 (by decide)]; exact a3
  · rw [h235, h107]
  · rw [md_frA hm.1 (by decide), md_frA hm.1 (by decide), md_frA hm.1 (by decide), cd_frJ hc.1 (by decide) (by decide)]; exact a6
  · rw [md_frA hm.1 (by decide)]; exact h106
theorem turn_ok {n mx d Z K st t : Nat} {C : Nat × Nat} {c c1 : cd_S} {b : cd_B} {m m1 : md_S} {D : PD} {h : HV} {Ls : List (List Int32)} {Fs : Nat → List FR} (l2 l7 : Int32) (hn : 60000000 ≤ n) (hC : BC C) (hr : RSTS n mx d Z C c b m c1 m1 D h Ls K st Fs) (ht : t < K) (hg : cgm m t = true) (hZ : Z + 2 * MU D mx K Fs st + 3 < 2 ^ 31) (hM : MU D mx K Fs st < 15000000) :
    ∃ m2 c' b' m', (∀ k y, f_X12_choose_L4 n n m k 0 = some (m, y, nI t) → f_X12_choose n m k = some (0, m2)) ∧ f_X1_goThread n c b t = some (0, c', b') ∧ ble b' b ∧ f_X12_run_L217 n l2 l7 n m2 = some m' ∧ GOE n mx d (Z + 2 * MU D mx K Fs st) C c1 m1 D h (MU D mx K Fs st) c' b' m' := by
  have ha : ASKS n mx d C c1 m1 D := asks_all (by omega) hC
  have hcg : mA m 106 t = 0 ∧ (mA m 107 t = -1 ∨ mA m 106 (aN m 107 t) ≠ 0) := by unfold cgm at hg; exact decide_eq_true_iff.mp hg
  obtain ⟨h106, hw⟩ := hcg
  obtain ⟨hG, hB, h128, hT⟩ := id hr
  have hK := hG.2.1.1
  have ht8 : t < 8 := by omega
  obtain ⟨a1, ⟨a2, a3, a4, a5, a6⟩, a7, a8⟩ := hT t ht
  obtain ⟨f1, f2, f3, f4⟩ := a8 h106
  obtain ⟨mA0, hmA⟩ : ∃ z, z = mSI (mSI m 127 (nI t)) 128 1 := ⟨_, rfl⟩
  have omA : OPM [107, 127, 128] t m mA0 := by
    rw [hmA]
    exact ⟨md_fr_SI (md_fr_SI (md_fr_refl _ _) (by simp) _) (by simp) _, fun x _ => MAG.fr (L := [127, 128]) (md_fr_SI (md_fr_SI (md_fr_refl _ _) (by simp) _) (by simp) _) (by decide)⟩
  have eA : ∀ f, ∀ i, mA mA0 f i = mA m f i := fun f i => by rw [hmA]; rfl
  have hA127 : mI mA0 127 = nI t := by rw [hmA, mI_SIo (by decide), mI_SIe]
  have hA128 : mI mA0 128 = 1 := by rw [hmA, mI_SIe]
  have hMA : TM mA0 t h.1 D.cb (Fs t) := f3.mag (MAG.fr (L := [127, 128]) (by rw [hmA]; exact md_fr_SI (md_fr_SI (md_fr_refl _ _) (by simp) _) (by simp) _) (by decide))
  by_cases q : mA m 107 t = -1
  · rw [if_pos q] at f4
    have hRR : RR n mx d Z C c b mA0 c1 m1 D h Ls K st t Fs (Fs t) := ⟨hr.rest (L := []) (G := []) ht h106 ((OPC.refl [] t c).mo (by simp)) omA hA127 hA128 (by rw [a4]; exact q) (by rw [eA]; exact q), hB, f2, hMA, f4⟩
    have hle := mu_le (D := D) (mx := mx) (st := st) (Fs := Fs) ht
    obtain ⟨c', b', m', l', g1, g2, g3, g4⟩ := go_ok (n := n) (l2 := l2) (l7 := l7) (by omega) hC ha (μ D mx (Fs t) st) Z K st 0 c b mA0 h Ls Fs (Fs t) n n (Nat.le_refl _) hRR f1 (by omega) (by omega) (by omega) (by omega)
    rw [upF_self] at g4
    refine ⟨mA0, c', b', m', fun k y hk => ?_, ?_, g2, g3, g4⟩
    · unfold f_X12_choose
      rw [hk, bs_some]
      dsimp only
      rw [bs_some, bs_some, ← hmA, m_ld107 ht8, bs_some, eA, if_pos q]
    · unfold f_X1_goThread
      refine c_ck ?_ g2.1 g2.2
      rw [a4, if_pos q]
      unfold f_X1_goThread_J31
      rw [show f_X1_goThread_L33 n t n c b 0 0 = _ from g1, bs_some]
      exact c_ck rfl (Nat.le_refl _) (Nat.le_refl _)
  · obtain ⟨y, y1, y2⟩ := a5.resolve_left q
    have hy8 : y < 8 := by omega
    have haw : aN m 107 t = y := aN_of y2 (by omega)
    have hy6 : mA m 106 y ≠ 0 := by rw [← haw]; exact hw.resolve_left q
    have hyt : y ≠ t := fun z => hy6 (by rw [z]; exact h106)
    rw [if_neg q] at f4
    obtain ⟨c2, hc2⟩ : ∃ z, z = cSI c 235 t (-1) := ⟨_, rfl⟩
    obtain ⟨m2, hm2⟩ : ∃ z, z = mSA mA0 107 t (-1) := ⟨_, rfl⟩
    have oc2 : OPC [235] t c c2 := by rw [hc2]; exact opc_I (by decide)
    have om2 : OPM [107, 127, 128] t m m2 := omA.tr (by rw [hm2]; exact (opm_1 (by decide)).mo (by simp))
    have hR2 := hr.rest (L := []) (G := []) ht h106 oc2 om2 (by rw [hm2, mI_SA]; exact hA127) (by rw [hm2, mI_SA]; exact hA128) (by rw [hc2, cI_SIe]) (by rw [hm2, mA_SAe])
    have hB2 : Bd C c2 b := by rw [hc2]; exact hB.SI (by decide) _ _
    have co : ∀ g, g ≠ 235 → ∀ i, cI c2 g i = cI c g i := fun g hg i => by rw [hc2]; exact cI_SIo hg
    have mo : ∀ g, g ≠ 107 → ∀ i, mA m2 g i = mA m g i := fun g hg i => by rw [hm2, mA_SAo hg, eA]
    have hT2 : TC c2 t (Fs t) := by
      obtain ⟨i1, i2, i3, i4⟩ := f2
      exact ⟨by rw [co 232 (by decide)]; exact i1, i2, by rw [rsz_e (co 193 (by decide) _)]; exact i3, by rw [hc2]; exact i4.of (fun _ _ _ _ _ => rfl) (fun _ _ => rfl)⟩
    have hM2 : TM m2 t h.1 D.cb (Fs t) := by
      obtain ⟨⟨i1, i2, i3, i4, i5, i6⟩, i7⟩ := hMA
      have mo' : ∀ g, g ≠ 107 → ∀ i, mA m2 g i = mA mA0 g i := fun g hg i => by rw [hm2, mA_SAo hg]
      exact ⟨⟨by rw [mo' 111 (by decide)]; exact i1, i2, by rw [mo' 117 (by decide)]; exact i3, by rw [mo' 123 (by decide)]; exact i4, i5, i6.of (fun g k _ _ _ => mo' g (by omega) _) (fun g k _ _ => mo' g (by omega) _) (fun g k _ _ => mo' g (by omega) _) (fun g k _ _ _ => mo' g (by omega) _)⟩, by rw [mo' 120 (by decide)]; exact i7⟩
    have hbd := FTS.bd (h := h) hG.1.2.2.2.2.2 f4
    have hlen := f2.2.1
    have me2 : mI m2 127 = nI t := by rw [hm2, mI_SA]; exact hA127
    obtain ⟨z1, z2⟩ := (hT y y1).st
    have z1' : cI c2 234 y = mA m 106 y := by rw [co 234 (by decide)]; exact z1
    have z6 : cJ c2 236 y = cJ c 236 y := by rw [hc2]; rfl
    have hch : ∀ m3, f_X12_hasWaited n m2 (nI y) = some (0, m3) → ∀ k y', f_X12_choose_L4 n n m k 0 = some (m, y', nI t) → f_X12_choose n m k = some (0, m3) := fun m3 hm3 k y' hk => by
      unfold f_X12_choose
      rw [hk, bs_some]
      dsimp only
      rw [bs_some, bs_some, ← hmA, m_ld107 ht8, bs_some, eA, if_neg q, m_st107 ht8, bs_some, y2, ← hm2, hm3, bs_some]
    have hgt : ∀ s c3 b3 c' b', f_X1_takeOutcome n c2 b t y = some (s, c3, b3) → ble b3 b → f_X1_goThread_J31 n t c3 b3 s = some (0, c', b') → ble b' b3 → f_X1_goThread n c b t = some (0, c', b') := fun s c3 b3 c' b' h1 h2 h3 h4 => by
      unfold f_X1_goThread
      have h5 := h4.tr h2
      refine c_ck ?_ h5.1 h5.2
      rw [a4, if_neg q, y2, c_strandAt hy8, bs_some]
      dsimp only
      rw [bs_some, ← hc2, h1, bs_some]
      dsimp only
      exact c_ck h3 h4.1 h4.2
    obtain ⟨f, r, hfr⟩ : ∃ f r, Fs t = f :: r := by
      cases hh : Fs t with
      | nil => exact absurd hh f1
      | cons f r => exact ⟨f, r, rfl⟩
    rw [hfr] at f4 hT2 hM2 hbd hlen
    rw [List.length_cons] at hbd hlen
    obtain ⟨t3, ⟨s, e, t1, t2⟩, t4⟩ := f4
    rcases z2 with z2 | ⟨z2, z3, z4, z5⟩ | ⟨z2, z3⟩
    · exact absurd z2 hy6
    · -- with a value
      obtain ⟨c3, b3, k1, k2, k3, k4, k5⟩ := hT2.push (n := n) (v := cJ c 236 y) hC hB2 ht8 (by omega)
      obtain ⟨m3, j1, j2, j3⟩ := hM2.push (n := n) (x := cJ c 236 y) me2 ht8 rfl z3.n5 rfl (by omega)
      have hRR : RR n mx d Z C c3 b3 m3 c1 m1 D h Ls K st t Fs (f.sW (cJ c 236 y :: f.W) :: r) := ⟨hR2.op (k5.mo (by simp)) (j3.mo (by decide)), k2, k4, j2, ⟨⟨t3.1, t3.2.1, t3.2.2⟩, ⟨none :: s, e, t1, ⟨z3, t2⟩⟩, t4⟩⟩
      have hμ : μF D (f.sW (cJ c 236 y :: f.W) :: r) = μF D (Fs t) := by rw [hfr]; rfl
      obtain ⟨u1, u2, -⟩ := MU_set (D := D) (mx := mx) (st := st) (Fs := Fs) ht (Nat.le_of_eq hμ)
      obtain ⟨c', b', m', l', g1, g2, g3, g4⟩ := go_ok (n := n) (l2 := l2) (l7 := l7) (by omega) hC ha (μ D mx (f.sW (cJ c 236 y :: f.W) :: r) st) Z K st 0 c3 b3 m3 h Ls Fs (f.sW (cJ c 236 y :: f.W) :: r) n n (Nat.le_refl _) hRR (by simp) (by omega) (by omega) (by omega) (by omega)
      refine ⟨m3, c', b', m', hch m3 ?_, hgt 0 c3 b3 c' b' ?_ k3 ?_ g2, g2.tr k3, g3, ?_⟩
      · unfold f_X12_hasWaited
        rw [m_ld106 hy8, bs_some, mo 106 (by decide), if_pos z2, m_ld109 hy8, bs_some, m_ld110 hy8, bs_some, mo 109 (by decide), mo 110 (by decide), ← z4, z5, j1, bs_some]
      · unfold f_X1_takeOutcome
        rw [z1', z2, if_neg (show ¬ (1 : Int32) = 2 by decide), z6, k1, bs_some]
        exact c_ck (c_ck rfl (Nat.le_refl _) (Nat.le_refl _)) k3.1 k3.2
      · unfold f_X1_goThread_J31
        rw [show f_X1_goThread_L33 n t n c3 b3 0 0 = _ from g1, bs_some]
        exact c_ck rfl (Nat.le_refl _) (Nat.le_refl _)
      · rcases g4 with w | ⟨h', Ls', K', st', Fs', Z', w1, w2, w3, w4⟩
        · exact Or.inl w
        · exact Or.inr ⟨h', Ls', K', st', Fs', Z', w1, w2, by omega, by omega⟩
    · -- with a failure
      obtain ⟨x, hx⟩ : ∃ x, x = mA m 110 y := ⟨_, rfl⟩
      rw [← hx] at z3
      obtain ⟨k1, k2, k3, k4, k5⟩ := hT2.fail (n := n) (x := x) hB2
      have hR3 := hR2.op (k4.mo (by decide)) (OPM.refl lm0 t m2)
      obtain ⟨s', c4, b4, m4, e1, e2, e3, e4⟩ := fail_ok (g := f) (p1 := f.p) (X0 := []) (pre := [none]) (x := x) (n := n) (by omega) hC (by omega) hR3 k2 k3 (by simp) k5 hM2.1 ⟨t3, ⟨s, e, t1, t2⟩, t4⟩ (by show sz (f :: r) < 32768; omega)
      have hto : f_X1_takeOutcome n c2 b t y = some (2, cSI c2 237 t x, b) := by
        unfold f_X1_takeOutcome
        rw [z1', z2, if_pos rfl, z6, z3, k1, bs_some]
        exact c_ck rfl (Nat.le_refl _) (Nat.le_refl _)
      have hhw : f_X12_hasWaited n m2 (nI y) = some (0, m4) := by
        unfold f_X12_hasWaited
        rw [m_ld106 hy8, bs_some, mo 106 (by decide), z2, if_neg (show ¬ (2 : Int32) = 1 by decide), m_ld110 hy8, bs_some, mo 110 (by decide), ← hx, e2, bs_some]
      obtain ⟨n', hn'⟩ : ∃ n', n = n' + 1 := ⟨n - 1, by omega⟩
      have hL : ∀ R : cd_S × cd_B × Int32 × Int32, f_X1_goThread_L33 n t n' c4 b4 s' (nI 1) = some R → ble R.2.1 b4 → f_X1_goThread_L33 n t n (cSI c2 237 t x) b 2 0 = some R := fun R h1 h2 => by
        have : f_X1_goThread_L33 n t (n' + 1) (cSI c2 237 t x) b 2 0 = some R := by
          rw [u_X1_goThread_L33, if_neg (by decide), if_neg (by decide), if_pos rfl, e1, bs_some]
          refine c_ck ?_ h2.1 h2.2
          unfold f_X1_goThread_J78
          dsimp only
          exact h1
        rw [← hn'] at this
        exact this
      rcases e4 with ⟨w1, F', w2, w3, w4⟩ | ⟨w1, Fs', w2, w3, w4⟩
      · subst w1
        have w4' : μF D F' < μF D (Fs t) := by rw [hfr]; exact w4
        obtain ⟨u1, u2, u3⟩ := MU_set (D := D) (mx := mx) (st := st) (Fs := Fs) ht (Nat.le_of_lt w4')
        obtain ⟨u3, u4⟩ := u3 w4'
        obtain ⟨c', b', m', l', g1, g2, g3, g4⟩ := go_ok (n := n) (l2 := l2) (l7 := l7) (by omega) hC ha (μ D mx F' st) (Z + 1) K st 1 c4 b4 m4 h Ls Fs F' n' n (Nat.le_refl _) w2 w3 (by omega) (by omega) (by omega) (by omega)
        refine ⟨m4, c', b', m', hch m4 hhw, hgt 2 _ b c' b' hto (ble.refl b) ?_ (g2.tr e3), g2.tr e3, g3, ?_⟩
        · unfold f_X1_goThread_J31
          rw [hL _ g1 g2, bs_some]
          exact c_ck rfl (Nat.le_refl _) (Nat.le_refl _)
        · rcases g4 with w | ⟨h', Ls', K', st', Fs', Z', w1, w2, w3, w4⟩
          · exact Or.inl w
          · exact Or.inr ⟨h', Ls', K', st', Fs', Z', w1, w2, by omega, by omega⟩
      · subst w1
        have hstop : f_X1_goThread_L33 n t n' c4 b4 1 (nI 1) = some (c4, b4, 1, nI 1) := by
          obtain ⟨j', ej⟩ : ∃ j', n' = j' + 1 := ⟨n' - 1, by omega⟩
          rw [ej, u_X1_goThread_L33, if_neg (by decide), if_pos rfl]
        have hstopm : f_X12_run_L217 n l2 l7 n m4 = some m4 := by
          have : f_X12_run_L217 n l2 l7 (n' + 1) m4 = some m4 := by rw [u_X12_run_L217, w2.2.2.1, if_pos rfl]
          rw [← hn'] at this
          exact this
        have hFs : Fs' = upF Fs t [] := by
          funext x
          unfold upF
          by_cases qx : x = t
          · rw [if_pos qx, qx, w4]
          · rw [if_neg qx, w3 x qx]
        have hμ0 : μF D [] < μF D (Fs t) := by
          rw [hfr]
          show 0 < rm D f.u f.p + 1 + μF D r
          omega
        obtain ⟨u1, u2, u3⟩ := MU_set (D := D) (mx := mx) (st := st) (Fs := Fs) ht (Nat.le_of_lt hμ0)
        obtain ⟨u3, u4⟩ := u3 hμ0
        refine ⟨m4, c4, b4, m4, hch m4 hhw, hgt 2 _ b c4 b4 hto (ble.refl b) ?_ e3, e3, hstopm, Or.inr ⟨h, Ls, K, st, Fs', Z + 1, HVle.refl h, w2, by rw [hFs]; exact u3, by rw [hFs]; omega⟩⟩
        unfold f_X1_goThread_J31
        rw [hL _ hstop (ble.refl b4), bs_some]
        exact c_ck rfl (Nat.le_refl _) (Nat.le_refl _)
