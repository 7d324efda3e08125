/-! a field in step -/
theorem field_ok {n : Nat} {C : Nat × Nat} {B : Nat → Int32} {N : Nat} {c0 c : cd_S} {m0 m : md_S} {b : cd_B} {w : WD} {L : List WD} {mc d : Nat} (hC : BC C) (hn : 5000 ≤ n) (hc : CI C c0 b c b) (hm : MIw m0 m) (h : LX B N c m w L) (hk : wK w ≠ 0) (hs : OST c m mc) (hd : cI c 137 0 = nI d) (hdm : d + 1 = mc) :
    OUTG (MIw m0) C c0 b (f_X4_readField n c b) (Option.bind (f_X12_next n m) fun p4 => Option.bind (f_X12_readField n p4.2 (nI d)) fun p5 => f_X12_sign n p5.2 (59 : Int32)) (fun _ c' _ _ m' => OST c' m' mc ∧ (∃ w' L', LX B N c' m' w' L' ∧ L'.length < L.length) ∧ cI c' 137 0 = nI d ∧ aN m' 28 d = aN m 28 d + 1 ∧ aN m' 30 d = aN m 30 d) (fun _ _ => True) := by
  unfold f_X4_readField
  refine outg_ck ?_
  obtain ⟨c1, m1, a1, a2, a3, a4, ⟨w1, L1, hL1, a5⟩, a6⟩ := adv_ok (n := n) hn h hk
  rw [a1, bs_some, a2, bs_some]
  dsimp only
  have hc1 : CI C c0 b c1 b := hc.fr a3 (by decide)
  have hm1 : MIw m0 m1 := hm.fr a4 (by decide)
  rcases a5 with hX1 | ⟨hbw, hnf⟩
  · have hs1 := hs.adv a3 a4
    have hd1 : cI c1 137 0 = nI d := by rw [cd_frI a3 (by decide) (by decide)]; exact hd
    have hs1' := hs1
    obtain ⟨-, -, -, -, -, -, -, -, -, hMD, -, -, hmth, -⟩ := hs1'
    have hMD' := hMD
    obtain ⟨hmc8, h74, -, hq⟩ := hMD'
    obtain ⟨-, -, -, ⟨k, k1, k2, k3, -⟩, -⟩ := hq d (by omega)
    have hd8 : d < 8 := by omega
    unfold f_X12_readField
    rcases m_isName (n := n) hX1 with ⟨hk2, e1⟩ | ⟨hk2, m', e1, e2, e3⟩
    · refine outg_c (c_needName1 (by rw [hX1.k.1]; exact hk2)) ?_
      dsimp only
      rw [e1, bs_some]
      dsimp only
      rw [if_neg ne10, hd1, c_fieldCount hmc8 h74 (by omega) k2, bs_some, m_ld28 hd8, bs_some, k3]
      dsimp only
      by_cases h4 : k = 4
      · rw [h4, if_pos (show (4 : Int32) ≤ nI 4 from by decide), if_pos (show nI 4 = (4 : Int32) from rfl)]
        unfold f_X4_readField_J32
        obtain ⟨c', b', t1, t2⟩ := c_room0 (n := n) hC hc1.1 hX1.k.2.1
        obtain ⟨m', f1, f2, f3⟩ := m_failsW (n := n) (k := 4) hX1 (by decide) (by decide)
        refine outg_thr t1 t2 hc1 (ble.refl _) (x := 0) (m' := m') ?_ (hm1.fr f2 (by decide)) f3
        rw [show f_X12_fails n m1 4 = _ from f1, bs_some, bs_some]
        exact nf_sign f3 _
      · have hk4 : k < 4 := by omega
        rw [if_neg (show ¬ (4 : Int32) ≤ nI k from fun y => absurd ((nI_leI (a := 4) (by omega) (by omega)).mp y) (by omega)), if_neg (show ¬ nI k = (4 : Int32) from fun y => h4 ((nI_eq (b := 4) (by omega) (by omega)).mp y))]
        unfold f_X4_readField_J32
        refine outg_c c_room1 ?_
        dsimp only
        have hnm : NR (wX w1) (mJ m1 12) := hX1.mw.2.2.2.2.2.1 hk2
        rw [hd1, hX1.k.2.2]
        rcases fld_ok (n := n) (i := d) hn hMD (by omega) hnm with ⟨s, s1, s2, s3⟩ | ⟨s2, s3⟩
        · obtain ⟨c', b', t1, t2⟩ := c_refuse (n := n) (k := 2) (pl := wF w1) hC hc1.1
          obtain ⟨m', f1, f2, f3⟩ := m_failsW (n := n) (k := 2) hX1 (by decide) (by decide)
          rw [s2, bs_some, s3, bs_some]
          dsimp only
          rw [if_neg (nI_nem1 (a := s) (by omega)), if_neg (nI_nem1 (a := s) (by omega)), hX1.k.2.1]
          refine outg_thr t1 t2 hc1 (ble.refl _) (x := 0) (m' := m') ?_ (hm1.fr f2 (by decide)) f3
          rw [show f_X12_fails n m1 2 = _ from f1, bs_some, bs_some]
          exact nf_sign f3 _
        · rw [s2, bs_some, s3, bs_some]
          dsimp only
          rw [if_pos rfl, if_pos rfl]
          unfold f_X4_readField_J69
          have e9 : (4 : Int32) * nI d + nI k = nI (4 * d + k) := by rw [show (4 : Int32) = nI 4 from rfl, nI_mul, nI_add]
          obtain ⟨c2, hc2⟩ : ∃ z, z = cSA (cSL c1 69 0 (4 * d + k) (wX w1)) 70 0 d (nI (k + 1)) := ⟨_, rfl⟩
          obtain ⟨m2, hm2⟩ : ∃ z, z = mSA (mSL m1 29 (4 * d + k) (mJ m1 12)) 28 d (nI (k + 1)) := ⟨_, rfl⟩
          have fc2 : cd_fr [69, 70] [] c1 c2 := by rw [hc2]; exact cd_fr_SA (cd_fr_SL (cd_fr_refl _ _ _) (by decide) _ _ _) (by decide) _ _ _
          have fm2 : md_fr [28, 29] m1 m2 := by rw [hm2]; exact md_fr_SA (md_fr_SL (md_fr_refl _ _) (by decide) _ _) (by decide) _ _
          rw [hd1, hX1.k.2.2, c_addField hmc8 h74 (by omega) k2 hk4, bs_some, m_ld28 hd8, bs_some, k3, e9, m_st29 (by omega), bs_some, m_ld28 hd8, bs_some, mA_SL, k3, nI_1, m_st28 hd8, bs_some, ← hc2, ← hm2]
          dsimp only
          have hM2 : MDR c2 m2 mc := by
            refine hMD.addf hdm k2 hk4 fc2 fm2 (fun i hi => ?_) ?_ (fun i hi => ?_) ?_ (fun i hi => ?_) (fun i hi => ?_) ?_
            · rw [hc2, cA_SAi hi]; rfl
            · rw [hc2, cA_SAe]
            · rw [hm2, mA_SAi hi]; rfl
            · rw [hm2, mA_SAe]
            · rw [hc2]; exact cL_SLi hi
            · rw [hm2, show mL (mSA (mSL m1 29 (4 * d + k) (mJ m1 12)) 28 d (nI (k + 1))) 29 i = mL (mSL m1 29 (4 * d + k) (mJ m1 12)) 29 i from rfl]; exact mL_SLi hi
            · have z1 : cLr c2 69 0 (4 * d + k) = wX w1 := by rw [hc2]; exact cL_SLe
              have z2 : mL m2 29 (4 * d + k) = mJ m1 12 := by rw [hm2, show mL (mSA (mSL m1 29 (4 * d + k) (mJ m1 12)) 28 d (nI (k + 1))) 29 (4 * d + k) = mL (mSL m1 29 (4 * d + k) (mJ m1 12)) 29 (4 * d + k) from rfl]; exact mL_SLe
              rw [z1, z2]; exact hnm
          have hs2 : OST c2 m2 mc := by
            refine hs1.md (cd_fr_mono fc2 (by decide) (fun _ y => y)) (md_fr_mono fm2 (by decide)) hM2 (Nat.le_refl _) (fun i hi x hx => ?_)
            have z1 : aN m2 30 i = aN m1 30 i := by rw [aN, aN, md_frA fm2 (by decide)]
            have z2 : aN m2 31 (12 * i + x) = aN m1 31 (12 * i + x) := by rw [aN, aN, md_frA fm2 (by decide)]
            rw [z1] at hx
            rw [z2, md_frA fm2 (by decide)]
            exact hmth i hi x hx
          have hX2 : LX B N c2 m2 w1 L1 := hX1.fr fc2 fm2 (by decide) (by decide) (by decide)
          have hcc2 : CI C c0 b c2 b := hc1.fr fc2 (by decide)
          have hmm2 : MIw m0 m2 := hm1.fr fm2 (by decide)
          obtain ⟨c3, m3, g1, g2, g3, g4, ⟨w3, L3, hL3, g5⟩, g6⟩ := adv_ok (n := n) hn hX2 (by rw [hk2]; decide)
          have hcc3 : CI C c0 b c3 b := hcc2.fr g3 (by decide)
          have hmm3 : MIw m0 m3 := hmm2.fr g4 (by decide)
          rw [g1, bs_some, g2, bs_some, bs_some]
          dsimp only
          rcases g5 with hX3 | ⟨hbw, hnf⟩
          · have hs3 := hs2.adv g3 g4
            have e10 : f_X12_sign n m3 59 = Option.bind (f_X12_sign n m3 59) fun p => some (p.1, p.2) := by cases f_X12_sign n m3 59 <;> rfl
            rw [e10]
            refine outg_seq (pass_out (s := 59) (sk := 59) hC hn hcc3 (MI.refl m3) hX3 sg59 (by decide)).g ?_ ?_ ?_
            · rintro v4 c4 b4 x4 m4 hc4 hm4 ⟨rfl, hk4', ⟨w4, L4, hL4, hX4⟩, fc4, fm4, s4⟩
              dsimp only
              refine ⟨x4, m4, rfl, hmm3.mi hm4, Or.inl ⟨0, c4, b4, rfl, hc4.here, hs3.adv fc4 fm4, ⟨w4, L4, hX4, ?_⟩, ?_, ?_, by rw [aN, aN, md_frA fm4 (by decide), md_frA g4 (by decide), md_frA fm2 (by decide), md_frA a4 (by decide)]⟩⟩
              · rw [hL1, hL3, hL4]; simp; omega
              · rw [cd_frI fc4 (by decide) (by decide), cd_frI g3 (by decide) (by decide), cd_frI fc2 (by decide) (by decide)]; exact hd1
              · have z0 : aN m 28 d = k := aN_of (by rw [← md_frA a4 (by decide)]; exact k3) (by omega)
                rw [z0]
                refine aN_of ?_ (by omega)
                rw [md_frA fm4 (by decide), md_frA g4 (by decide), hm2, mA_SAe]
            · rintro v4 c4 b4 pl hc4 hbw ⟨rfl, -⟩
              exact Or.inl ⟨0, c4, b4, rfl, hc4.here, hbw, trivial⟩
            · intro x4 z k' pl h1 h2
              exact ⟨x4, z, rfl, hmm3.mi h1, h2⟩
          · exact ⟨0, m3, nf_sign hnf _, hmm3, Or.inr (Or.inl ⟨wF w3, op_seq (Pn1 := fun _ _ => False) (pass_bw hC hcc3 hbw (by decide)) (fun _ _ _ _ _ y => y.elim), hnf⟩)⟩
    · obtain ⟨c', b', t1, t2⟩ := c_needName0 (n := n) hC hc1.1 hX1.k.2.1 (by rw [hX1.k.1]; exact hk2)
      refine outg_thr t1 t2 hc1 (ble.refl _) (x := 0) (m' := m') ?_ (hm1.fr e2 (by decide)) e3
      rw [e1, bs_some]
      dsimp only
      rw [if_pos rfl, bs_some]
      exact nf_sign e3 _
  · obtain ⟨c', b', t1, t2⟩ := c_needName0 (n := n) hC hc1.1 hbw.2 (by rw [hbw.1]; decide)
    refine outg_thr t1 t2 hc1 (ble.refl _) (x := 0) (m' := m1) ?_ hm1 hnf
    unfold f_X12_readField
    rw [nf_isName hnf, bs_some]
    dsimp only
    rw [if_pos rfl, bs_some]
    exact nf_sign hnf _
