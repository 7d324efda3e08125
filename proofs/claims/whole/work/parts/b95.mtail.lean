/-! the end of a method: its name is entered, its body read -/
theorem dp135 {c : cd_S} {u : Nat} (h : cP c 135 0 = u + 1) (hu : u < 60) : cd_dp c 135 0 = some u := by
  have h' : c.2.2.2.2.1 135 0 = u + 1 := h
  unfold cd_dp
  rw [h', if_pos ⟨by omega, by show u + 1 ≤ 60; omega⟩]
  rfl
theorem c_isModule {n : Nat} {c : cd_S} {d mc : Nat} (hmc : mc ≤ 8) (h74 : cI c 74 0 = nI mc) (hd : d < mc) : f_X2_isModule n c (nI d) = some (1, c) := by
  unfold f_X2_isModule
  rw [if_neg (show ¬ nI d < 0 from nI_nn (by omega)), h74, if_neg (show ¬ nI mc ≤ nI d from fun y => absurd ((nI_leI (by omega) (by omega)).mp y) (by omega))]
theorem c_methodCount {n : Nat} {c : cd_S} {d mc k : Nat} (hmc : mc ≤ 8) (h74 : cI c 74 0 = nI mc) (hd : d < mc) (h73 : cAr c 73 0 d = nI k) : f_X2_methodCount n c (nI d) = some (nI k, c) := by
  unfold f_X2_methodCount
  rw [c_isModule hmc h74 hd, bs_some]
  dsimp only
  rw [if_neg ne10, c_ld73 (by omega), bs_some, h73]
theorem c_addMethod {n : Nat} {c : cd_S} {d mc k u : Nat} (hmc : mc ≤ 8) (h74 : cI c 74 0 = nI mc) (hd : d < mc) (h73 : cAr c 73 0 d = nI k) (hk : k < 12) : f_X2_addMethod n c (nI d) (nI u) = some (0, cSA (cSA c 72 0 (12 * d + k) (nI u)) 73 0 d (nI (k + 1))) := by
  have e1 : nI d * 12 + nI k = nI (12 * d + k) := by rw [show (12 : Int32) = nI 12 from rfl, nI_mul, nI_add, Nat.mul_comm]
  unfold f_X2_addMethod
  rw [c_isModule hmc h74 hd, bs_some]
  dsimp only
  rw [if_neg ne10, c_ld73 (by omega), bs_some, h73, if_neg (show ¬ (12 : Int32) ≤ nI k from fun y => absurd ((nI_leI (a := 12) (by omega) (by omega)).mp y) (by omega)), bs_some, e1, c_st72 (by omega), bs_some, c_ld73 (by omega), bs_some, cA_SAo (by decide), h73, nI_1, c_st73 (by omega), bs_some]
theorem nfT {n : Nat} {m0 m : md_S} {k pl d u kM : Nat} {l4 : Int32} (hd8 : d < 8) (hk : kM < 12) (hu : u < 60) (h30 : mA m 30 d = nI kM) (hm : MIw m0 m) (h : NF m k pl) : ∃ x m2, (Option.bind (mldA m 30 (nI d)) fun v2 => Option.bind (mstA m 31 ((((12 : Int32) * (nI d)) + v2)) (nI u)) fun σ3 => Option.bind (mldA σ3 30 (nI d)) fun v4 => Option.bind (mstA σ3 30 (nI d) ((v4 + 1))) fun σ5 => Option.bind (f_X12_sign n σ5 (61 : Int32)) fun p6 => Option.bind (some (mSI p6.2 64 (nI u))) fun σ7 => Option.bind (md_Ge n 400 0 0 0 0 σ7) fun p8 => Option.bind (mstA p8.2 41 (nI u) (p8.1)) fun σ9 => Option.bind (some (mSI σ9 64 ((-1)))) fun σ10 => Option.bind (some (mSI σ10 56 l4)) fun σ11 => Option.bind (f_X12_sign n σ11 (59 : Int32)) fun p12 => some ((0 : Int32), p12.2)) = some (x, m2) ∧ MIw m0 m2 ∧ NF m2 k pl := by
  have e2 : (12 : Int32) * nI d + nI kM = nI (12 * d + kM) := by rw [show (12 : Int32) = nI 12 from rfl, nI_mul, nI_add]
  have f4 : md_fr [30, 31] m (mSA (mSA m 31 (12 * d + kM) (nI u)) 30 d (nI (kM + 1))) := md_fr_SA (md_fr_SA (md_fr_refl _ _) (by decide) _ _) (by decide) _ _
  have h4 := h.fr f4 (by decide) (by decide)
  rw [m_ld30 hd8, bs_some, h30, e2, m_st31 (by omega), bs_some, m_ld30 hd8, bs_some, mA_SAo (by decide), h30, nI_1, m_st30 hd8, bs_some, nf_sign h4, bs_some, bs_some]
  dsimp only
  obtain ⟨m4, hm4⟩ : ∃ z, z = mSA (mSA m 31 (12 * d + kM) (nI u)) 30 d (nI (kM + 1)) := ⟨_, rfl⟩
  rw [← hm4] at f4 h4 ⊢
  have f5 : md_fr [64] m4 (mSI m4 64 (nI u)) := md_fr_SI (md_fr_refl _ _) (by decide) _
  obtain ⟨x, m5, e5, g5, h5⟩ := nfG0 (n := n) (h := 400) (by decide) (b16 m4) (mSI m4 64 (nI u)) k pl ((MI.refl m4).fr f5 (by decide)) (h4.fr f5 (by decide) (by decide))
  rw [show md_Ge n 400 0 0 0 0 (mSI m4 64 (nI u)) = _ from e5, bs_some, m_st41 hu, bs_some, bs_some, bs_some]
  dsimp only
  have f6 : md_fr [41, 56, 64] m5 (mSI (mSI (mSA m5 41 u x) 64 (-1)) 56 l4) := md_fr_SI (md_fr_SI (md_fr_SA (md_fr_refl _ _) (by decide) _ _) (by decide) _) (by decide) _
  have h6 := h5.fr f6 (by decide) (by decide)
  rw [nf_sign h6, bs_some]
  exact ⟨_, _, rfl, ((hm.fr f4 (by decide)).mi g5).fr f6 (by decide), h6⟩
theorem nfJ151 {n : Nat} {m0 m : md_S} {k pl d u kM : Nat} {l4 : Int32} (hd8 : d < 8) (hk : kM < 12) (hu : u < 60) (h30 : mA m 30 d = nI kM) (hm : MIw m0 m) (h : NF m k pl) : ∃ x m2, f_X12_readMethod_J151 n m (nI d) (nI u) l4 = some (x, m2) ∧ MIw m0 m2 ∧ NF m2 k pl := by
  unfold f_X12_readMethod_J151
  rw [nf_sign h, bs_some]
  exact nfT hd8 hk hu h30 hm h
theorem mtail_ok {n : Nat} {C : Nat × Nat} {B : Nat → Int32} {N : Nat} {c0 c : cd_S} {m0 m : md_S} {b : cd_B} {w : WD} {L : List WD} {mc d u kM : Nat} {nm : Int64} (hC : BC C) (hn : 5000 ≤ n) (hc : CI C c0 b c b) (hm : MIw m0 m) (h : LX B N c m w L) (hkw : wK w = 41) (hs : ST c (mSI m 64 (nI u)) [u] mc 15 0) (hd : cI c 137 0 = nI d) (hdm : d < mc) (hmc8 : mc ≤ 8) (hu60 : u < 60) (h135 : cP c 135 0 = u + 1) (hk12 : kM < 12) (h73 : cAr c 73 0 d = nI kM) (h30 : mA m 30 d = nI kM) (hnm : NR nm (mL m 43 u)) (h36 : mA m 36 u = 0) (hrL : rL c (17 + 3 * u) = []) (h302 : cI c 302 u = 0) (h63 : mI m 63 = 0) (hz : ∀ j, j < mN m 65 → mA m 67 j ≠ nI u) (hnames : ∀ i, i < mN m 35 → i ≠ u → mA m 36 i = 0 → NR (cJ c 293 i) (mL m 43 i)) (hmth : ∀ i, i < mc → ∀ x, x < aN m 30 i → mA m 36 (aN m 31 (12 * i + x)) = 0) :
    OUTG (MIw m0) C c0 b (f_X4_readMethod_J123 n c b nm) (f_X12_readMethod_J151 n m (nI d) (nI u) 0) (fun _ c' _ _ m' => OST c' m' mc ∧ (∃ w' L', LX B N c' m' w' L' ∧ L'.length < L.length) ∧ cI c' 137 0 = nI d ∧ aN m' 30 d = kM + 1) (fun _ _ => True) := by
  have hd8 : d < 8 := by omega
  have e2 : (12 : Int32) * nI d + nI kM = nI (12 * d + kM) := by rw [show (12 : Int32) = nI 12 from rfl, nI_mul, nI_add]
  have hs0 := hs
  obtain ⟨⟨-, -, -, -, -, -, -, -, cs⟩, -, -, -, -, -, -, -, -, -, ⟨hMD, -⟩, -⟩ := hs0
  have hmm : mc % 16 = mc := by omega
  rw [hmm] at hMD
  have n64 : mN (mSI m 64 (nI u)) 64 = u := mN_of mI_SIe (by omega)
  have hu35 : u < mN m 35 := by
    have := hs.now.1
    rw [n64] at this; exact this
  have h35 : mN m 35 ≤ 60 := hs.nv.2.1
  have c66 : cN c 66 = mN m 35 := hs.nv.2.2.2.2.2.1
  have h288 : cI c 288 u = nI u := (cs u (by omega)).2.2.2
  have h74 := hMD.2.1
  -- the name is entered
  obtain ⟨c2, hc2⟩ : ∃ z, z = cSA (cSA (cSJ c 293 u nm) 72 0 (12 * d + kM) (nI u)) 73 0 d (nI (kM + 1)) := ⟨_, rfl⟩
  have fc2 : cd_fr [72, 73, 293] [] c c2 := by
    rw [hc2]
    exact cd_fr_SA (cd_fr_SA (cd_fr_SJ (cd_fr_refl _ _ _) (by decide) _ _) (by decide) _ _ _) (by decide) _ _ _
  have hX2 : LX B N c2 m w L := h.fr fc2 (md_fr_refl _ []) (by decide) (by decide) (by decide)
  have hcc2 : CI C c0 b c2 b := hc.fr fc2 (by decide)
  obtain ⟨c3, m3, a1, a2, a3, a4, ⟨w3, L3, hL3, a5⟩, a6⟩ := adv_ok (n := n) hn hX2 (by rw [hkw]; decide)
  have hcc3 : CI C c0 b c3 b := hcc2.fr a3 (by decide)
  have hm3 : MIw m0 m3 := hm.fr a4 (by decide)
  have h303 : mA m3 30 d = nI kM := by rw [md_frA a4 (by decide)]; exact h30
  unfold f_X4_readMethod_J123 f_X12_readMethod_J151
  rw [dp135 h135 hu60, bs_some, bs_some, dp135 (c := cSJ c 293 u nm) h135 hu60, bs_some]
  have eadd : f_X2_addMethod n (cSJ c 293 u nm) (cI (cSJ c 293 u nm) 137 0) (cI (cSJ c 293 u nm) 288 u) = some (0, c2) := by
    have x1 : cI (cSJ c 293 u nm) 137 0 = nI d := hd
    have x2 : cI (cSJ c 293 u nm) 288 u = nI u := h288
    rw [x1, x2, hc2]
    exact c_addMethod hmc8 h74 hdm h73 hk12
  have esign : f_X12_sign n m 41 = some (0, m3) := by
    unfold f_X12_sign
    rw [m_isSign h.fine h.mw sg41, bs_some]
    dsimp only
    rw [if_pos hkw, if_neg ne10, a2, bs_some]
  rw [eadd, bs_some, a1, bs_some, esign, bs_some]
  dsimp only
  rcases a5 with hX3 | ⟨hbw, hnf⟩
  · obtain ⟨m4, hm4⟩ : ∃ z, z = mSA (mSA m3 31 (12 * d + kM) (nI u)) 30 d (nI (kM + 1)) := ⟨_, rfl⟩
    have f4 : md_fr [30, 31] m3 m4 := by rw [hm4]; exact md_fr_SA (md_fr_SA (md_fr_refl _ _) (by decide) _ _) (by decide) _ _
    rw [m_ld30 hd8, bs_some, h303, e2, m_st31 (by omega), bs_some, m_ld30 hd8, bs_some, mA_SAo (by decide), h303, nI_1, m_st30 hd8, bs_some, ← hm4]
    have hX4 : LX B N c3 m4 w3 L3 := hX3.fr (cd_fr_refl _ [] []) f4 (by decide) (by decide) (by decide)
    have hm4' : MIw m0 m4 := hm3.fr f4 (by decide)
    -- the states with the method in its module
    have hsa : ST c2 (mSA (mSA (mSI m 64 (nI u)) 31 (12 * d + kM) (nI u)) 30 d (nI (kM + 1))) [u] mc 15 0 := by
      refine hs.addm fc2 (md_fr_SA (md_fr_SA (md_fr_refl _ _) (by decide) _ _) (by decide) _ _) ?_ (fun i hi => ?_)
      · rw [hmm]
        refine hMD.addm (u := u) hdm h73 hk12 hu35 fc2 (md_fr_SA (md_fr_SA (md_fr_refl _ _) (by decide) _ _) (by decide) _ _) (fun i hi => ?_) ?_ (fun i hi => ?_) ?_ (fun i hi => ?_) ?_ (fun i hi => ?_) ?_
        · rw [hc2, cA_SAi hi, cA_SAo (by decide)]; rfl
        · rw [hc2, cA_SAe]
        · rw [mA_SAi hi, mA_SAo (by decide)]
        · rw [mA_SAe]
        · rw [hc2, cA_SAo (by decide), cA_SAi hi]; rfl
        · rw [hc2, cA_SAo (by decide), cA_SAe]
        · rw [mA_SAo (by decide), mA_SAi hi]
        · rw [mA_SAo (by decide), mA_SAe]
      · by_cases hiu : i = u
        · right
          rw [hiu]
          have : cJ c2 293 u = nm := by rw [hc2]; exact cJ_SJe
          rw [this]; exact hnm
        · left
          rw [hc2]; exact cJ_SJi hiu
    have hs4 : ST c3 (mSI m4 64 (nI u)) [u] mc 15 0 := by
      refine hsa.adv a3 ?_
      rw [hm4]
      exact md_frSA (md_frSA (md_fr64 a4) (by decide)) (by decide)
    have j293 : ∀ i, i ≠ u → cJ c3 293 i = cJ c 293 i := fun i hi => by
      rw [cd_frJ a3 (by decide) (by decide), hc2]; exact cJ_SJi hi
    have j293u : cJ c3 293 u = nm := by
      rw [cd_frJ a3 (by decide) (by decide), hc2]; exact cJ_SJe
    have A4 : ∀ f, f ∉ [6, 7, 8, 9, 10, 11, 12, 13, 14, 15, 30, 31] → ∀ i, mA m4 f i = mA m f i := fun f hf i => by
      rw [md_frA f4 (fun y => hf (by revert y; simp; omega)), md_frA a4 (fun y => hf (by revert y; simp; omega))]
    have L4 : ∀ i, mL m4 43 i = mL m 43 i := fun i => by rw [md_frL f4 (by decide), md_frL a4 (by decide)]
    have N4 : mN m4 35 = mN m 35 := by rw [mN_fr f4 (by decide), mN_fr a4 (by decide)]
    have hnames4 : ∀ i, i < mN m4 35 → mA m4 36 i = 0 → NR (cJ c3 293 i) (mL m4 43 i) := fun i hi h0 => by
      rw [L4]
      by_cases hiu : i = u
      · rw [hiu, j293u]; exact hnm
      · rw [j293 i hiu]
        exact hnames i (by omega) hiu (by rw [A4 36 (by decide)] at h0; exact h0)
    have hmth4 : ∀ i, i < mc → ∀ x, x < aN m4 30 i → aN m4 31 (12 * i + x) < mN m4 35 ∧ mA m4 36 (aN m4 31 (12 * i + x)) = 0 := fun i hi x hx => by
      obtain ⟨-, -, -, q⟩ := hMD
      obtain ⟨-, -, -, -, ⟨kk, k1, k2, k3, k4⟩, -⟩ := q i hi
      have k3' : mA m 30 i = nI kk := k3
      by_cases hid : i = d
      · subst hid
        have hkk : kk = kM := (nI_eq (by omega) (by omega)).mp (k3'.symm.trans h30)
        have e30 : aN m4 30 i = kM + 1 := by rw [hm4]; exact aN_of mA_SAe (by omega)
        rw [e30] at hx
        by_cases hxk : x = kM
        · have e31 : aN m4 31 (12 * i + x) = u := by rw [hm4, hxk]; exact aN_of (by rw [mA_SAo (by decide), mA_SAe]) (by omega)
          rw [e31, A4 36 (by decide)]
          exact ⟨by omega, h36⟩
        · have e31 : aN m4 31 (12 * i + x) = aN m 31 (12 * i + x) := by
            rw [aN, aN, hm4, mA_SAo (by decide), mA_SAi (by omega), md_frA a4 (by decide)]
          obtain ⟨uu, u1, u2, u3⟩ := k4 x (by omega)
          have u3' : mA m 31 (12 * i + x) = nI uu := u3
          have u1' : uu < mN m 35 := u1
          rw [e31, A4 36 (by decide)]
          refine ⟨by rw [aN_of u3' (by omega)]; omega, hmth i hi x ?_⟩
          rw [aN_of h30 (by omega)]; omega
      · have e30 : aN m4 30 i = aN m 30 i := by rw [aN, aN, hm4, mA_SAi hid, mA_SAo (by decide), md_frA a4 (by decide)]
        have hx2 : x < kk := by rw [e30, aN_of k3' (by omega)] at hx; exact hx
        obtain ⟨uu, u1, u2, u3⟩ := k4 x hx2
        have u3' : mA m 31 (12 * i + x) = nI uu := u3
        have u1' : uu < mN m 35 := u1
        have e31 : aN m4 31 (12 * i + x) = aN m 31 (12 * i + x) := by
          rw [aN, aN, hm4, mA_SAo (by decide), mA_SAi (by omega), md_frA a4 (by decide)]
        rw [e31, A4 36 (by decide)]
        refine ⟨by rw [aN_of u3' (by omega)]; omega, hmth i hi x (by rw [e30] at hx; exact hx)⟩
    have nfE : ∀ (x : Int32) (z : md_S) (k2 pl : Nat), MI (b16 m4) z → NF z k2 pl → ∃ x2 m2, (Option.bind (mstA z 41 (nI u) x) fun σ9 => Option.bind (some (mSI σ9 64 ((-1)))) fun σ10 => Option.bind (some (mSI σ10 56 0)) fun σ11 => Option.bind (f_X12_sign n σ11 (59 : Int32)) fun p12 => some ((0 : Int32), p12.2)) = some (x2, m2) ∧ MIw m0 m2 ∧ NF m2 k2 pl := by
      intro x z k2 pl h1 h2
      have f6 : md_fr [41, 56, 64] z (mSI (mSI (mSA z 41 u x) 64 (-1)) 56 0) := md_fr_SI (md_fr_SI (md_fr_SA (md_fr_refl _ _) (by decide) _ _) (by decide) _) (by decide) _
      have h6 := h2.fr f6 (by decide) (by decide)
      rw [m_st41 hu60, bs_some, bs_some, bs_some, nf_sign h6, bs_some]
      exact ⟨_, _, rfl, (hm4'.mi h1).fr f6 (by decide), h6⟩
    refine outg_seq (pass_out (s := 61) (sk := 61) hC hn hcc3 (MI.refl m4) hX4 sg61 (by decide)).g ?_ ?_ ?_
    · rintro v5 c5 b5 x5 m5 hc5 hm5 ⟨rfl, hk5, ⟨w5, L5, hL5, hX5⟩, fc5, fm5, s5⟩
      dsimp only
      rw [bs_some]
      have f64 : md_fr [64] m5 (mSI m5 64 (nI u)) := md_fr_SI (md_fr_refl _ _) (by decide) _
      have hs5 : ST c5 (mSI m5 64 (nI u)) [u] mc 15 0 := hs4.adv fc5 (md_fr64 fm5)
      have hX5' : LX B N c5 (mSI m5 64 (nI u)) w5 L5 := hX5.fr (cd_fr_refl _ [] []) f64 (by decide) (by decide) (by decide)
      have h635 : mI (mSI m5 64 (nI u)) 63 = nI 0 := by
        rw [mI_SIo (by decide), md_frI fm5 (by decide), md_frI f4 (by decide), md_frI a4 (by decide), h63]; rfl
      have n645 : mN (mSI m5 64 (nI u)) 64 = u := mN_of mI_SIe (by omega)
      have hP135 : cP c5 135 0 = u + 1 := by
        rw [cd_frP fc5 (by decide) (by decide), cd_frP a3 (by decide) (by decide), cd_frP fc2 (by decide) (by decide)]; exact h135
      have h3025 : cI c5 302 u = 0 := by
        rw [cd_frI fc5 (by decide) (by decide), cd_frI a3 (by decide) (by decide), cd_frI fc2 (by decide) (by decide)]; exact h302
      have hrL5 : rL c5 (17 + 3 * u) = [] := by
        rw [rL_fr fc5 (by simp), rL_fr a3 (by simp), rL_fr fc2 (by simp)]; exact hrL
      have h1375 : cI c5 137 0 = nI d := by
        rw [cd_frI fc5 (by decide) (by decide), cd_frI a3 (by decide) (by decide), cd_frI fc2 (by decide) (by decide)]; exact hd
      refine outg_seq (expr_ok hC hn c0 (b16 m4) c5 (mSI m5 64 (nI u)) b5 w5 L5 [u] mc 15 0 hc5.here (hm5.fr f64 (by decide)) hX5' (hs5.debt (by omega) (by omega) (Nat.le_refl _)) h635 (Nat.le_refl _)).g ?_ ?_ ?_
      · rintro v6 c6 b6 x6 m6 hc6 hm6 ⟨⟨w6, L6, hX6, hl6⟩, hs6, hg6, hp6, f, r, es, l0, l1, ns, rfl, y0, y1, yb0, yb1, ⟨hG, hW⟩, hnb, h71, hrL6, hcv6⟩
        dsimp only
        rw [n645] at y0 y1 hG hrL6 hcv6
        have hgn := hg6.1
        have hl0 : l0 = 0 := (nI_eq (by omega) (by omega)).mp (y0.symm.trans h3025)
        rw [hl0] at hG
        rw [hrL5, List.nil_append] at hrL6
        have n646 : mN m6 64 = u := hg6.n64.trans n645
        obtain ⟨-, gkp, gun, -, -, -, -, g63, -, g137, g135, gnew, -⟩ := hg6
        have hnow6 := hs6.now
        rw [n646] at hnow6
        obtain ⟨b7, e1, e3, e4⟩ := c_emit (n := n) (x := 28) (y := 0) (z := 0) hC hc6.1 hu60 (by omega)
        rw [dp135 (g135.trans hP135) hu60, bs_some]
        refine outg_em e1 e4 ?_
        dsimp only
        rw [bs_some, m_st41 hu60, bs_some, bs_some, bs_some]
        have N65 : mN (mSI m5 64 (nI u)) 35 = mN m4 35 := by rw [mN, mI_SIo (by decide)]; exact mN_fr fm5 (by decide)
        have A5 : ∀ f i, f ∉ [6, 7, 8, 9, 10, 11, 12, 13, 14, 15] → mA (mSI m5 64 (nI u)) f i = mA m4 f i := fun f i hf => md_frA fm5 hf i
        have hgw : ∃ g, GW m6 g r 149 24 := by
          obtain ⟨g, hg⟩ := hW.2 (by rw [mN_of h635 (by omega)]; omega)
          rw [mN_of h635 (by omega)] at hg
          exact ⟨g, hg.le (by unfold wB; omega) (by omega)⟩
        have hfin := OST.fin (k := 14) (nn := mN (mSI m5 64 (nI u)) 65) (un := mN (mSI m5 64 (nI u)) 35) hs6 n646 (hc6.1.1 _ (by omega)) hG.root.2.1 hgw hG y1 hnb (by rw [N65]; omega) hrL6 (fun j hj h67 => by
          by_cases hj5 : j < mN (mSI m5 64 (nI u)) 65
          · rw [(hgn.2 j hj5).2.1] at h67
            refine absurd ?_ (hz j ?_)
            · rw [mA_SI, md_frA fm5 (by decide), md_frA f4 (by decide), md_frA a4 (by decide)] at h67
              exact h67
            · rw [mN, mI_SIo (by decide)] at hj5
              have e5 : mN m5 65 = mN m 65 := by rw [mN_fr fm5 (by decide), mN_fr f4 (by decide), mN_fr a4 (by decide)]
              rw [← e5]; exact hj5
          · rcases hcv6 j (by omega) hj with ⟨-, y⟩ | ⟨q, q1, q2, q3, q4⟩
            · exact y
            · have hq6 := hs6.nv.2.1
              have := (nI_eq (by omega) (by omega)).mp (q4.symm.trans h67)
              exact absurd (by rw [this]; simp) q3) (g63.trans h635) (fun i hi h0 => by
          by_cases hi5 : i < mN (mSI m5 64 (nI u)) 35
          · obtain ⟨⟨t36, -, -, -, -, -, t43, t293⟩, -⟩ := gun i hi5
            rw [t43, t293, md_frL (md_fr64 fm5) (by decide), cd_frJ fc5 (by decide) (by decide)]
            rw [t36, A5 36 i (by decide)] at h0
            exact hnames4 i (by omega) h0
          · exact absurd h0 (gnew i (by omega) hi)) (fun i hi x hx => by
          rw [hmm] at hi
          have e30 : aN m6 30 i = aN m4 30 i := by rw [aN, aN, (gkp.2.2.2.2.2.2.1 i).1, A5 30 i (by decide)]
          have e31 : aN m6 31 (12 * i + x) = aN m4 31 (12 * i + x) := by rw [aN, aN, (gkp.2.2.2.2.2.2.1 _).2, A5 31 _ (by decide)]
          rw [e30] at hx
          obtain ⟨t1, t2⟩ := hmth4 i hi x hx
          rw [e31]
          obtain ⟨⟨t36, -⟩, -⟩ := gun (aN m4 31 (12 * i + x)) (by omega)
          rw [t36, A5 36 _ (by decide)]
          exact t2)
        rw [hmm] at hfin
        have fme := em_fr c6 u 28 0 0
        have fc8 : cd_fr [134] [17 + 3 * u] c6 (cSI (em c6 u 28 0 0) 134 0 0) := cd_fr_SI (cd_fr_mono fme (by decide) (fun _ y => y)) (by decide) (by decide) _ _
        have fm8 : md_fr [41, 56, 64] m6 (mSI (mSI (mSA m6 41 u (nI r)) 64 (-1)) 56 0) := md_fr_SI (md_fr_SI (md_fr_SA (md_fr_refl _ _) (by decide) _ _) (by decide) _) (by decide) _
        have hX8 : LX B N (cSI (em c6 u 28 0 0) 134 0 0) (mSI (mSI (mSA m6 41 u (nI r)) 64 (-1)) 56 0) w6 L6 := hX6.fr fc8 fm8 (by decide) (by simp; omega) (by decide)
        have hm8 : MIw m0 (mSI (mSI (mSA m6 41 u (nI r)) 64 (-1)) 56 0) := (hm4'.mi hm6).fr fm8 (by decide)
        have hc8 : CI C c0 b7 (cSI (em c6 u 28 0 0) 134 0 0) b7 := ((hc6.em e3 e4 hu60).here).fr (F := [134]) (cd_fr_SI (cd_fr_refl _ _ _) (by decide) (by decide) _ _) (by decide)
        refine outg_seq (pass_out (s := 59) (sk := 59) hC hn hc8 (MI.refl _) hX8 sg59 (by decide)).g ?_ ?_ ?_
        · rintro v9 c9 b9 x9 m9 hc9 hm9 ⟨rfl, hk9, ⟨w9, L9, hL9, hX9⟩, fc9, fm9, s9⟩
          dsimp only
          refine ⟨0, m9, rfl, hm8.mi hm9, Or.inl ⟨0, c9, b9, rfl, hc9.here, hfin.adv fc9 fm9, ⟨w9, L9, hX9, ?_⟩, ?_, ?_⟩⟩
          · rw [hL3]; rw [hL5] at hL3 ⊢; rw [hL9] at hl6; simp at hl6 ⊢; omega
          · rw [cd_frI fc9 (by decide) (by decide), cI_SIo (by decide), em_I (by decide), g137]; exact h1375
          · refine aN_of ?_ (by omega)
            rw [md_frA fm9 (by decide), md_frA fm8 (by decide), (gkp.2.2.2.2.2.2.1 d).1, A5 30 d (by decide), hm4, mA_SAe]
        · rintro v9 c9 b9 pl hc9 hbw ⟨rfl, -⟩
          exact Or.inl ⟨0, c9, b9, rfl, hc9.here, hbw, trivial⟩
        · intro x9 z k2 pl h1 h2
          exact ⟨0, z, rfl, hm8.mi h1, h2⟩
      · rintro v6 c6 b6 pl hc6 hbw ⟨hcs, hle⟩
        dsimp only
        obtain ⟨y1, y2, y3, y4, y5, y6, y7, ⟨ur, yr1, yr2⟩, y8⟩ := hcs
        rw [dp135 yr2 (by omega), bs_some]
        have hz := (y8 ur yr1).1
        obtain ⟨b7, e1, e3, e4⟩ := c_emit (n := n) (x := 28) (y := 0) (z := 0) hC hc6.1 (show ur < 60 by omega) (by omega)
        refine op_em e1 e4 ?_
        dsimp only
        rw [bs_some]
        have hc8 : CI C c0 b7 (cSI (em c6 ur 28 0 0) 134 0 0) b7 := ((hc6.em e3 e4 (by omega)).here).fr (F := [134]) (cd_fr_SI (cd_fr_refl _ _ _) (by decide) (by decide) _ _) (by decide)
        exact op_seq (Pn1 := fun _ _ => False) (pass_bw hC hc8 ⟨by rw [cI_SIo (by decide), em_I (by decide)]; exact hbw.1, by rw [cI_SIo (by decide), em_I (by decide)]; exact hbw.2⟩ (by decide)) (fun _ _ _ _ _ y => y.elim)
      · intro x6 z k2 pl h1 h2
        exact nfE x6 z k2 pl h1 h2
    · rintro v5 c5 b5 pl hc5 hbw ⟨rfl, fc5⟩
      dsimp only
      exact op_seq (Pn1 := fun _ _ => False) (bwG0 (n := n) (g := 400) (a := 1) hC (by decide) c0 c5 b5 pl hc5.here hbw) (fun _ _ _ _ _ y => y.elim)
    · intro x5 z k2 pl h1 h2
      dsimp only
      rw [bs_some]
      have f5 : md_fr [64] z (mSI z 64 (nI u)) := md_fr_SI (md_fr_refl _ _) (by decide) _
      obtain ⟨x, m7, e5, g5, h5⟩ := nfG0 (n := n) (h := 400) (by decide) (b16 m4) (mSI z 64 (nI u)) k2 pl (h1.fr f5 (by decide)) (h2.fr f5 (by decide) (by decide))
      rw [show md_Ge n 400 0 0 0 0 (mSI z 64 (nI u)) = _ from e5, bs_some]
      exact nfE x m7 k2 pl g5 h5
  · obtain ⟨x, m4, g1, g2, g3⟩ := nfT (n := n) (l4 := 0) hd8 hk12 hu60 h303 hm3 hnf
    exact ⟨x, m4, g1, g2, Or.inr (Or.inl ⟨wF w3, op_seq (Pn1 := fun _ _ => False) (pass_bw hC hcc3 hbw (by decide)) (fun _ _ _ _ _ y => y.elim), g3⟩)⟩
