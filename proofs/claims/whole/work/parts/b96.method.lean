/-! a method in step -/
theorem OUTG.imp {Q : md_S → Prop} {C : Nat × Nat} {c0 : cd_S} {b : cd_B} {fc : Option Th} {fm : Option (Int32 × md_S)} {Ok Ok' : Int32 → cd_S → cd_B → Int32 → md_S → Prop} {Pn : cd_S → cd_B → Prop} (h : OUTG Q C c0 b fc fm Ok Pn) (hi : ∀ v c' b' x m', Ok v c' b' x m' → Ok' v c' b' x m') : OUTG Q C c0 b fc fm Ok' Pn := by
  obtain ⟨x, m', e1, e2, h | h | h⟩ := h
  · obtain ⟨v, c', b', e, h1, h2⟩ := h
    exact ⟨x, m', e1, e2, Or.inl ⟨v, c', b', e, h1, hi _ _ _ _ _ h2⟩⟩
  · exact ⟨x, m', e1, e2, Or.inr (Or.inl h)⟩
  · exact ⟨x, m', e1, e2, Or.inr (Or.inr h)⟩
theorem nfPar {n : Nat} {z : md_S} {k2 pl : Nat} {u v : Int32} (h2 : NF z k2 pl) : f_X12_parameters n z u v = some (0, z) := by
  unfold f_X12_parameters
  rw [nf_sign h2, bs_some]
  dsimp only
  rw [nf_isFine h2, bs_some]
  rfl
theorem bw_pars {n : Nat} {C : Nat × Nat} {c0 c : cd_S} {b : cd_B} {pl : Nat} {Pn : cd_S → cd_B → Prop} (hC : BC C) (hn : 5000 ≤ n) (hc : CI C c0 b c b) (hbw : BW c pl) : OP C c0 b (f_X4_readParameters n c b) pl Pn := by
  unfold f_X4_readParameters f_X4_readParameters_J22
  rw [hbw.1, if_neg (by decide)]
  obtain ⟨n', hn'⟩ : ∃ q, n = q + 1 := ⟨n - 1, by omega⟩
  obtain ⟨c', b', e1, e2⟩ := c_needName0 (n := n) hC hc.1 hbw.2 (by rw [hbw.1]; decide)
  have hL1 : f_X4_readParameters_L25 n (cI c 134 0) n c b 1 0 = some (Sum.inl (Sum.inr (c', b'))) := by
    have : f_X4_readParameters_L25 n (cI c 134 0) (n' + 1) c b 1 0 = some (Sum.inl (Sum.inr (c', b'))) := by
      rw [u_X4_readParameters_L25, if_neg ne10, if_neg (by decide), e1, bs_some]
      exact ckx_inl (bd := fun (r : TL) => r.2.1) rfl (ble.refl _)
    rw [← hn'] at this; exact this
  refine Or.inr ⟨c', b', ?_, e2.tx hc⟩
  refine ck_inr ?_ ⟨e2.2.2.2.1, e2.2.2.2.2.1⟩
  rw [hL1, bs_some]
  exact ck_inr rfl (ble.refl _)
theorem method_ok {n : Nat} {C : Nat × Nat} {B : Nat → Int32} {N : Nat} {c0 c : cd_S} {m0 m : md_S} {b : cd_B} {w : WD} {L : List WD} {mc d : Nat} (hC : BC C) (hn : 5000 ≤ n) (hc : CI C c0 b c b) (hm : MIw m0 m) (h : LX B N c m w L) (hk : wK w = 2) (hs : OST c m mc) (hd : cI c 137 0 = nI d) (hdm : d < mc) :
    OUTG (MIw m0) C c0 b (f_X4_readMethod n c b) (f_X12_readMethod n m (nI d)) (fun _ c' _ _ m' => OST c' m' mc ∧ (∃ w' L', LX B N c' m' w' L' ∧ L'.length < L.length) ∧ cI c' 137 0 = nI d ∧ aN m' 30 d = aN m 30 d + 1) (fun _ _ => True) := by
  have hs0 := hs
  obtain ⟨⟨p1, p2, p3, p4, p5, p6, p7, p8, p9⟩, -, -, -, -, ⟨-, -, -, -, hnu0, -⟩, -, -, -, hMD, -, hnam, hmth, -⟩ := hs0
  obtain ⟨hmc8, h74, -, hq⟩ := hMD
  obtain ⟨-, -, -, -, ⟨kM, k1, k2, k3, k4⟩, -⟩ := hq d hdm
  have hd8 : d < 8 := by omega
  unfold f_X4_readMethod f_X12_readMethod
  refine outg_ck ?_
  rw [hd, c_methodCount hmc8 h74 hdm k2, bs_some, m_ld30 hd8, bs_some, k3]
  dsimp only
  by_cases h12 : kM = 12
  · rw [h12, if_pos (show (12 : Int32) ≤ nI 12 from by decide), if_pos (show nI 12 = (12 : Int32) from rfl)]
    unfold f_X4_readMethod_J22
    obtain ⟨c', b', e1, e2⟩ := c_room0 (n := n) hC hc.1 h.k.2.1
    obtain ⟨m', f1, f2, f3⟩ := m_failsW (n := n) (k := 4) h (by decide) (by decide)
    refine outg_thr e1 e2 hc (ble.refl _) (x := 0) (m' := m') ?_ (hm.fr f2 (by decide)) f3
    rw [show f_X12_fails n m 4 = _ from f1, bs_some]
  · have hk12 : kM < 12 := by omega
    rw [if_neg (show ¬ (12 : Int32) ≤ nI kM from fun y => absurd ((nI_leI (a := 12) (by omega) (by omega)).mp y) (by omega)), if_neg (show ¬ nI kM = (12 : Int32) from fun y => h12 ((nI_eq (b := 12) (by omega) (by omega)).mp y))]
    unfold f_X4_readMethod_J22
    refine outg_c c_room1 ?_
    dsimp only
    rcases mbegin_ok (n := n) hC hn hc (MI.refl m) h hk hs hd hd8 hdm with ⟨c', b', m', e1, e2, e3, e4, e5⟩ | ⟨c1, c2, m1, m2, m3, u, v, w', L', hu, hu60, e1, e2, e3, e4, e5, e6, e7, e8, hLw, hc2, hm2, hcase⟩
    · refine ⟨0, m', ?_, hm.mi e4, Or.inr (Or.inr ⟨c', b', 4, wF w, ?_, e2.tx hc, e5⟩)⟩
      · rw [show f_X12_newUnit n m 0 (nI d) (-1) = _ from e3, bs_some]
        dsimp only
        rw [nf_isFine e5, bs_some]
        rfl
      · rw [show f_X4_openUnit n c b 0 = _ from e1, bs_some]
        exact ck_inr rfl (ble.refl _)
    · obtain ⟨m4, hm4⟩ : ∃ z, z = mSA m3 55 u (nI v) := ⟨_, rfl⟩
      rw [show f_X4_openUnit n c b 0 = _ from e1, bs_some]
      refine outg_ck ?_
      dsimp only [Sum.elim]
      rw [bs_some, dp135 (c := cSP c1 135 0 (u + 1)) cP_SPe hu60, bs_some, bs_some, e3, bs_some, show cJ (cSP (cSP c1 135 0 (u + 1)) 136 0 (u + 1)) 330 0 = wX w from e2, show f_X12_newUnit n m 0 (nI d) (-1) = _ from e4, bs_some]
      dsimp only
      rw [m_fine, bs_some, if_pos e5]
      dsimp only
      rw [if_neg ne10, e6, bs_some]
      dsimp only
      rw [e8, bs_some, e7]
      dsimp only
      rw [m_st55 hu60, bs_some, ← hm4]
      rw [← hm4] at hm2 hcase
      have nf2 : ∀ (z : md_S) (k2 pl : Nat), MI (b16 m) z → NF z k2 pl → ∃ x2 m2, (Option.bind (f_X12_isSign n z (41 : Int32)) fun p20 => if p20.1 = 0 then (f_X12_readMethod_J151 n p20.2 (nI d) (nI u) 0) else (Option.bind (f_X12_readMethod_L80 n (nI d) ((mI m 9)) (nI u) 0 n p20.2 0) fun q28 => Sum.elim some (fun t28 => f_X12_readMethod_J151 n t28.1 (nI d) (nI u) 0) q28)) = some (x2, m2) ∧ MIw m0 m2 ∧ NF m2 k2 pl := by
        intro z k2 pl h1 h2
        rw [nf_isSign h2, bs_some]
        dsimp only
        rw [if_pos rfl]
        exact nfJ151 hd8 hk12 hu60 (by rw [md_frA h1.1 (by decide)]; exact k3) (hm.mi h1) h2
      rcases hcase with ⟨hbw, hnf⟩ | ⟨hX2, hs2, fc2, fm2, s7, hnm, hold, g36, g39, g46, grL, g302, g35, g292⟩
      · obtain ⟨x, m5, y1, y2, y3⟩ := nf2 m4 1 (wF w') hm2 hnf
        refine ⟨x, m5, ?_, y2, Or.inr (Or.inl ⟨wF w', op_seq (Pn1 := fun _ _ => False) (pass_bw hC hc2 hbw (by decide)) (fun _ _ _ _ _ y => y.elim), y3⟩)⟩
        rw [nfPar hnf, bs_some]
        exact y1
      · unfold f_X12_parameters
        rw [Option.bind_assoc]
        refine outg_seq (pass_out (s := 40) (sk := 40) hC hn hc2 hm2 hX2 sg40 (by decide)).g ?_ ?_ ?_
        · rintro v6 c6 b6 x6' m6 hc6 hm6 ⟨rfl, hk6, ⟨w6, L6, hL6, hX6⟩, fc6, fm6, s6⟩
          dsimp only
          have hs6 : ST c6 (mSI m6 64 (nI u)) [u] (mc + 96) 15 0 := hs2.adv fc6 (md_fr64 fm6)
          have hpar := params_ok (n := n) (off := 1) (mc := mc) hC hn hu60 hc6.here hm6 hX6 hs6 (by rw [md_frA fm6 (by decide)]; exact g39) (by rw [md_frA fm6 (by decide)]; exact g46) (by
            unfold ub aN
            rw [md_frA fm6 (by decide), g36, md_frA fm6 (by decide), g39, if_pos rfl]; rfl)
          refine outg_seq hpar.g ?_ ?_ ?_
          · rintro v7 c7 b7 x7' m7 hc7 hm7 ⟨rfl, p', w7, L7, hX7, hl7, hp', q39, q294, hs7, hpf7⟩
            dsimp only
            have h307 : mA m7 30 d = nI kM := by rw [md_frA hm7.1 (by decide)]; exact k3
            rw [hX7.k.1, m_isSign hX7.fine hX7.mw sg41, bs_some]
            dsimp only
            by_cases h41 : wK w7 = 41
            · rw [if_pos h41, if_pos h41, if_neg ne10]
              unfold f_X4_readMethod_J85
              refine outg_c c_need1 ?_
              dsimp only
              have hs7' := hs7
              obtain ⟨-, -, -, eu, -, -, -, -, -, -, -, -, ⟨ur, r1, r2, r3⟩, -, r5⟩ := hs7'
              have hur : ur = u := List.mem_singleton.mp (r5 ur r2)
              rw [hur] at r1
              have n357 : mN m7 35 = u + 1 := by
                rw [mN_fr hpf7.2.1 (by decide), mN_fr fm6 (by decide)]; exact g35
              have CA : ∀ f, f ∈ [67, 68, 69, 70, 71, 72, 73] → ∀ i, cAr c7 f 0 i = cAr c f 0 i := fun f hf i => by
                rw [cd_frA hpf7.1 (by revert hf; simp; omega) (by revert hf; simp; omega), cd_frA fc6 (by revert hf; simp; omega) (by revert hf; simp; omega), cd_frA fc2 (by revert hf; simp; omega) (by revert hf; simp; omega)]
              have CId : cI c7 137 0 = nI d := by
                rw [cd_frI hpf7.1 (by decide) (by decide), cd_frI fc6 (by decide) (by decide), cd_frI fc2 (by decide) (by decide)]; exact hd
              have C74 : cI c7 74 0 = nI mc := by
                rw [cd_frI hpf7.1 (by decide) (by decide), cd_frI fc6 (by decide) (by decide), cd_frI fc2 (by decide) (by decide)]; exact h74
              have C292 : cI c7 292 u = nI (wF w) := by
                rw [cd_frI hpf7.1 (by decide) (by decide), cd_frI fc6 (by decide) (by decide)]; exact g292
              have CJo : ∀ i, i ≠ u → cJ c7 293 i = cJ c 293 i := fun i hi => by
                rw [cd_frJ hpf7.1 (by decide) (by decide), cd_frJ fc6 (by decide) (by decide)]; exact (hold i hi).1
              have ML : ∀ i, mL m7 43 i = mL m4 43 i := fun i => by rw [md_frL hpf7.2.1 (by decide), md_frL fm6 (by decide)]
              have M36 : ∀ i, mA m7 36 i = mA m4 36 i := fun i => by rw [md_frA hpf7.2.1 (by decide), md_frA fm6 (by decide)]
              have M3 : ∀ f, f ∈ [30, 31] → ∀ i, mA m7 f i = mA m f i := fun f hf i => md_frA hm7.1 (by revert hf; revert f; decide) i
              have hnm7 : NR (wX w) (mL m7 43 u) := by rw [ML]; exact hnm
              have hnames7 : ∀ i, i < mN m7 35 → i ≠ u → mA m7 36 i = 0 → NR (cJ c7 293 i) (mL m7 43 i) := fun i hi hiu h0 => by
                rw [CJo i hiu, ML, (hold i hiu).2.1]
                rw [M36, (hold i hiu).2.2] at h0
                exact hnam i (by omega) h0
              have hmt : ∀ i, i < mc → ∀ x, x < aN m 30 i → aN m 31 (12 * i + x) < u ∧ mA m7 36 (aN m 31 (12 * i + x)) = 0 := fun i hi x hx => by
                obtain ⟨-, -, -, -, ⟨kk, j1, j2, j3, j4⟩, -⟩ := hq i hi
                have hx2 : x < kk := by rw [aN_of j3 (by omega)] at hx; exact hx
                obtain ⟨uu, u1, u2, u3⟩ := j4 x hx2
                have hh := hmth i hi x hx
                rw [aN_of u3 (by omega)] at hh ⊢
                refine ⟨by omega, ?_⟩
                rw [M36, (hold uu (by omega)).2.2]; exact hh
              have hmth7 : ∀ i, i < mc → ∀ x, x < aN m7 30 i → mA m7 36 (aN m7 31 (12 * i + x)) = 0 := fun i hi x hx => by
                have z1 : aN m7 30 i = aN m 30 i := by rw [aN, aN, M3 30 (by decide)]
                have z2 : aN m7 31 (12 * i + x) = aN m 31 (12 * i + x) := by rw [aN, aN, M3 31 (by decide)]
                rw [z1] at hx
                rw [z2]
                exact (hmt i hi x hx).2
              have hz7 : ∀ j, j < mN m7 65 → mA m7 67 j ≠ nI u := fun j hj y => by
                rw [mN_fr hpf7.2.1 (by decide), mN_fr fm6 (by decide), mN_fr fm2 (by decide)] at hj
                rw [md_frA hpf7.2.1 (by decide), md_frA fm6 (by decide), md_frA fm2 (by decide)] at y
                obtain ⟨q, q1, q2⟩ := hnu0 j hj
                have := (nI_eq (by omega) (by omega)).mp (q2.symm.trans y)
                omega
              have hown := own_ok (n := n) (c := c7) (m := m7) (d := d) (kM := kM) (u := u) (mc := mc) (nm := wX w) (l2 := mI m 9) (l4 := 0) hn hd8 hdm hmc8 C74 (by rw [CA 73 (by decide)]; exact k2) k1 hu60 h307 (fun x hx => by
                obtain ⟨uu, u1, u2, u3⟩ := k4 x hx
                have hx3 : x < aN m 30 d := by rw [aN_of k3 (by omega)]; exact hx
                have t := hmt d hdm x hx3
                rw [aN_of u3 (by omega)] at t
                have tu := eu uu (by show uu < mN m7 35; omega)
                refine ⟨uu, by omega, by rw [CA 72 (by decide)]; exact u2, by rw [M3 31 (by decide)]; exact u3, hnames7 uu (by omega) (by omega) t.2, tu.2.2.2.2.2.1⟩) hnm7 (q294.trans q39.symm)
              rw [dp135 r1 hu60, bs_some, CId]
              rcases hown with ⟨vv, hvv, o1, o2⟩ | ⟨o1, o2⟩
              · obtain ⟨c', b', t1, t2⟩ := c_refuse (n := n) (k := 2) (pl := wF w) hC hc7.1
                obtain ⟨m8, f1, f2, f3⟩ := m_failsAt (n := n) (k := 2) (pl := wF w) hX7.fine (by decide) (by decide)
                rw [o1, bs_some]
                dsimp only
                rw [if_neg (show ¬ nI vv = (-1 : Int32) from fun y => absurd (nI_gtm1 (a := vv) (by omega)) (by rw [y]; decide)), dp135 r1 hu60, bs_some, C292]
                refine outg_thr t1 t2 hc7.here (ble.refl _) (x := 0) (m' := m8) ?_ ((hm.mi hm7).fr f2 (by decide)) f3
                rw [o2, h.mw.2.2.2.1, show f_X12_failsAt n m7 2 (nI (wF w)) = _ from f1, bs_some, bs_some]
              · rw [o1, bs_some]
                dsimp only
                rw [if_pos rfl, o2, bs_some]
                dsimp only [Sum.elim]
                refine (mtail_ok (n := n) (kM := kM) hC hn hc7.here (hm.mi hm7) hX7 h41 hs7 CId hdm hmc8 hu60 r1 hk12 (by rw [CA 73 (by decide)]; exact k2) h307 hnm7 (by rw [M36]; exact g36) (by rw [rL_fr hpf7.1 (by simp), rL_fr fc6 (by simp)]; exact grL) (by rw [cd_frI hpf7.1 (by decide) (by decide), cd_frI fc6 (by decide) (by decide)]; exact g302) (by rw [md_frI hpf7.2.1 (by decide), md_frI fm6 (by decide), md_frI fm2 (by decide)]; exact p9) hz7 hnames7 hmth7).imp ?_
                rintro v8 c8 b8 x8 m8 ⟨a1, ⟨w8, L8, a2, a3⟩, a4, a5⟩
                refine ⟨a1, ⟨w8, L8, a2, ?_⟩, a4, by rw [a5, aN_of k3 (by omega)]⟩
                rw [hLw, hL6]; simp; omega
            · rw [if_neg h41, if_neg h41, if_pos rfl]
              unfold f_X4_readMethod_J85 f_X12_readMethod_J151
              obtain ⟨c', b', t1, t2⟩ := c_need0 (n := n) hC hc7.1 hX7.k.2.1
              obtain ⟨m8, f1, f2, f3⟩ := m_misfit (n := n) hX7
              have esign : f_X12_sign n m7 41 = some (0, m8) := by
                unfold f_X12_sign
                rw [m_isSign hX7.fine hX7.mw sg41, bs_some]
                dsimp only
                rw [if_neg h41, if_pos rfl, m_fine, bs_some, if_pos hX7.fine]
                dsimp only
                rw [if_neg ne10, f1, bs_some]
              obtain ⟨x, m9, y1, y2, y3⟩ := nfT (n := n) (l4 := 0) hd8 hk12 hu60 (by rw [md_frA f2 (by decide)]; exact h307) ((hm.mi hm7).fr f2 (by decide)) f3
              refine outg_thr t1 t2 hc7.here (ble.refl _) (x := x) (m' := m9) ?_ y2 y3
              rw [esign, bs_some]
              exact y1
          · rintro v7 c7 b7 pl hc7 hbw -
            dsimp only
            rw [hbw.1, if_neg (by decide)]
            unfold f_X4_readMethod_J85
            exact op_seq (Pn1 := fun _ _ => False) (need_bw hC hc7.here hbw) (fun _ _ _ _ _ y => y.elim)
          · intro x7' z k2' pl h1 h2
            exact nf2 z k2' pl h1 h2
        · rintro v6 c6 b6 pl hc6 hbw ⟨rfl, fc6⟩
          dsimp only
          exact op_seq (Pn1 := fun _ _ => False) (bw_pars hC hn hc6.here hbw) (fun _ _ _ _ _ y => y.elim)
        · intro x6' z k2' pl h1 h2
          dsimp only
          rw [nf_isFine h2, bs_some]
          dsimp only
          rw [if_pos rfl, bs_some]
          exact nf2 z k2' pl h1 h2
