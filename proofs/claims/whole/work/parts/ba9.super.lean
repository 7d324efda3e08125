/-! the module above -/
theorem c_setSuper {n : Nat} {c : cd_S} {d x mc bp k : Nat} (hmc : mc ≤ 8) (h74 : cI c 74 0 = nI mc) (hd : d < mc) (hx : x < mc) (hxd : x ≠ d) (h71 : cAr c 71 0 x = nI bp) (h70 : cAr c 70 0 x = nI k) : f_X2_setSuper n c (nI d) (nI x) = some (0, cSA (cSA c 68 0 d (nI x)) 71 0 d (nI (bp + k))) := by
  unfold f_X2_setSuper f_X2_fieldTotal
  rw [c_isModule hmc h74 hd, bs_some]
  dsimp only
  rw [if_neg ne10, c_isModule hmc h74 hx, bs_some]
  dsimp only
  rw [if_neg ne10, c_st68 (by omega), bs_some, c_isModule (c := cSA c 68 0 d (nI x)) hmc h74 hx, bs_some]
  dsimp only
  rw [if_neg ne10, c_ld71 (by omega), bs_some, c_ld70 (by omega), bs_some, bs_some, cA_SAo (by decide), cA_SAo (by decide), h71, h70, nI_add]
  dsimp only
  rw [c_st71 (by omega), bs_some]
theorem super_ok {n : Nat} {C : Nat × Nat} {B : Nat → Int32} {N : Nat} {c0 c : cd_S} {m0 m : md_S} {b : cd_B} {w : WD} {L : List WD} {d : Nat} (hC : BC C) (hn : 5000 ≤ n) (hc : CI C c0 b c b) (hm : MIw m0 m) (h : LX B N c m w L) (hk : wK w ≠ 0) (hs : OST c (mSI m 25 (nI (d + 1))) (d + 1)) (h25 : mI m 25 = nI d) (hd : cI c 137 0 = nI d) (h28 : mA m 28 d = 0) (h30 : mA m 30 d = 0) :
    OUTG (MIw m0) C c0 b (Option.bind (f_X4_readSuper n c b) fun q19 => cd_ck sF (Sum.elim (fun (p : Int32 × cd_S × cd_B) => p.2.2) (fun (t : cd_S × cd_B) => t.2) q19) <| Sum.elim (fun p19 => f_X4_readModule_J123 n p19.2.1 (p19.2.2)) (fun t => some (Sum.inr t)) q19) (Option.bind (f_X12_next n m) fun p22 => Option.bind (f_X12_isName n p22.2) fun p23 => if p23.1 = 0 then (f_X12_readModule_J145 n p23.2 (nI d)) else (Option.bind (f_X12_moduleOf n p23.2 ((mJ p23.2 12))) fun p24 => Option.bind (mstA p24.2 27 (nI d) (p24.1)) fun σ25 => Option.bind (mldA σ25 27 (nI d)) fun v26 => if v26 = ((-1) : Int32) then (Option.bind (f_X12_fails n σ25 (3 : Int32)) fun p28 => some ((0 : Int32), p28.2)) else (Option.bind (f_X12_next n σ25) fun p27 => f_X12_readModule_J145 n p27.2 (nI d)))) (fun _ c' _ _ m' => OST c' m' (d + 1) ∧ ∃ w' L', LX B N c' m' w' L' ∧ L'.length < L.length) (fun _ _ => True) := by
  obtain ⟨c1, m1, a1, a2, a3, a4, ⟨w1, L1, hL1, a5⟩, a6⟩ := adv_ok (n := n) hn h hk
  have hc1 : CI C c0 b c1 b := hc.fr a3 (by decide)
  have hm1 : MIw m0 m1 := hm.fr a4 (by decide)
  rw [a2, bs_some]
  dsimp only
  rcases a5 with hX1 | ⟨hbw, hnf⟩
  · have f25 : md_fr [6, 7, 8, 9, 10, 11, 12, 13, 14, 15] (mSI m 25 (nI (d + 1))) (mSI m1 25 (nI (d + 1))) := fun j hj => by
      have hh := a4 j hj
      refine ⟨?_, hh.2.1, hh.2.2.1, hh.2.2.2⟩
      show (if j = 25 then nI (d + 1) else m.1 j) = (if j = 25 then nI (d + 1) else m1.1 j)
      rw [hh.1]
    have hs1 := hs.adv a3 f25
    have hd1 : cI c1 137 0 = nI d := by rw [cd_frI a3 (by decide) (by decide)]; exact hd
    have h251 : mI m1 25 = nI d := by rw [md_frI a4 (by decide)]; exact h25
    have hs1' := hs1
    obtain ⟨-, -, -, -, -, -, -, -, -, hMD, -, -, hmth, -⟩ := hs1'
    have hMD' := hMD
    obtain ⟨hmc8, h74, -, hq⟩ := hMD'
    rcases m_isName (n := n) hX1 with ⟨hk2, e1⟩ | ⟨hk2, m', e1, e2, e3⟩
    · have hnm : NR (wX w1) (mJ m1 12) := hX1.mw.2.2.2.2.2.1 hk2
      rw [e1, bs_some]
      dsimp only
      rw [if_neg ne10]
      rcases sup_ok (n := n) (d := d) hn hMD h251 hnm with ⟨x, x1, x2, x3⟩ | ⟨x2, x3⟩
      · obtain ⟨-, -, -, ⟨k, k1, k2, k3, -⟩, -, ⟨bp, b1, b2, -⟩⟩ := hq x (by omega)
        obtain ⟨c2, hc2⟩ : ∃ z, z = cSA (cSA c1 68 0 d (nI x)) 71 0 d (nI (bp + k)) := ⟨_, rfl⟩
        obtain ⟨m2, hm2⟩ : ∃ z, z = mSA m1 27 d (nI x) := ⟨_, rfl⟩
        have fc2 : cd_fr [68, 71] [] c1 c2 := by rw [hc2]; exact cd_fr_SA (cd_fr_SA (cd_fr_refl _ _ _) (by decide) _ _ _) (by decide) _ _ _
        have fm2 : md_fr [27] m1 m2 := by rw [hm2]; exact md_fr_SA (md_fr_refl _ _) (by decide) _ _
        have fmh : md_fr [27] (mSI m1 25 (nI (d + 1))) (mSI m2 25 (nI (d + 1))) := by rw [hm2]; exact md_fr_SA (md_fr_refl _ _) (by decide) _ _
        have h28' : mA m1 28 d = 0 := by rw [md_frA a4 (by decide)]; exact h28
        have hM2 : MDR c2 (mSI m2 25 (nI (d + 1))) (d + 1) := by
          refine hMD.sup x1 h28' b2 k3 k1 b1 fc2 fmh (fun i hi => ?_) (fun i hi => ?_) (fun i hi => ?_) ?_ ?_ ?_
          · rw [hc2, cA_SAo (by decide), cA_SAi hi]
          · rw [hc2, cA_SAi hi, cA_SAo (by decide)]
          · rw [hm2]; exact mA_SAi hi
          · rw [hc2, cA_SAo (by decide), cA_SAe]
          · rw [hc2, cA_SAe]
          · rw [hm2]; exact mA_SAe
        have hs2 : OST c2 (mSI m2 25 (nI (d + 1))) (d + 1) := by
          refine hs1.md (cd_fr_mono fc2 (by decide) (fun _ y => y)) (md_fr_mono fmh (by decide)) hM2 (Nat.le_refl _) (fun i hi y hy => ?_)
          have z1 : aN (mSI m2 25 (nI (d + 1))) 30 i = aN (mSI m1 25 (nI (d + 1))) 30 i := by rw [aN, aN, md_frA fmh (by decide)]
          have z2 : aN (mSI m2 25 (nI (d + 1))) 31 (12 * i + y) = aN (mSI m1 25 (nI (d + 1))) 31 (12 * i + y) := by rw [aN, aN, md_frA fmh (by decide)]
          rw [z1] at hy
          rw [z2, md_frA fmh (by decide)]
          exact hmth i hi y hy
        have hX2 : LX B N c2 m2 w1 L1 := hX1.fr fc2 fm2 (by decide) (by decide) (by decide)
        have hcc2 : CI C c0 b c2 b := hc1.fr fc2 (by decide)
        have hmm2 : MIw m0 m2 := hm1.fr fm2 (by decide)
        obtain ⟨c3, m3, g1, g2, g3, g4, ⟨w3, L3, hL3, g5⟩, g6⟩ := adv_ok (n := n) hn hX2 (by rw [hk2]; decide)
        have hcc3 : CI C c0 b c3 b := hcc2.fr g3 (by decide)
        have hmm3 : MIw m0 m3 := hmm2.fr g4 (by decide)
        have hrs : f_X4_readSuper n c b = some (Sum.inl (0, c3, b)) := by
          unfold f_X4_readSuper
          refine ck_inl ?_ (ble.refl _)
          rw [a1, bs_some, c_needName1 (by rw [hX1.k.1]; exact hk2), bs_some]
          refine ck_inl ?_ (ble.refl _)
          dsimp only [Sum.elim]
          rw [hX1.k.2.2, x2, bs_some]
          dsimp only
          rw [if_neg (nI_nem1 (a := x) (by omega)), hd1, if_neg (show ¬ nI x = nI d from fun y => absurd ((nI_eq (by omega) (by omega)).mp y) (by omega))]
          unfold f_X4_readSuper_J51
          rw [hd1, c_setSuper hmc8 h74 (by omega) (by omega) (by omega) b2 k2, bs_some, ← hc2]
          dsimp only
          rw [g1, bs_some]
        rw [hrs, bs_some, x3, bs_some]
        dsimp only
        rw [m_st27 (by omega), bs_some, ← hm2, m_ld27 (by omega), bs_some, show mA m2 27 d = nI x from by rw [hm2, mA_SAe], if_neg (nI_nem1 (a := x) (by omega)), g2, bs_some]
        refine outg_ck ?_
        dsimp only [Sum.elim]
        rcases g5 with hX3 | ⟨hbw, hnf⟩
        · have f253 : md_fr [6, 7, 8, 9, 10, 11, 12, 13, 14, 15] (mSI m2 25 (nI (d + 1))) (mSI m3 25 (nI (d + 1))) := fun j hj => by
            have hh := g4 j hj
            refine ⟨?_, hh.2.1, hh.2.2.1, hh.2.2.2⟩
            show (if j = 25 then nI (d + 1) else m2.1 j) = (if j = 25 then nI (d + 1) else m3.1 j)
            rw [hh.1]
          have hs3 := hs2.adv g3 f253
          refine (mbody_ok (n := n) (d := d) hC hn hcc3 hmm3 hX3 hs3 (by rw [md_frI g4 (by decide), md_frI fm2 (by decide)]; exact h251) (by rw [cd_frI g3 (by decide) (by decide), cd_frI fc2 (by decide) (by decide)]; exact hd1) ?_ ?_).imp ?_
          · rw [aN, md_frA g4 (by decide), md_frA fm2 (by decide), md_frA a4 (by decide), h28]; rfl
          · rw [aN, md_frA g4 (by decide), md_frA fm2 (by decide), md_frA a4 (by decide), h30]; rfl
          · rintro v8 c8 b8 x8 m8 ⟨z1, w8, L8, z2, z3⟩
            exact ⟨z1, w8, L8, z2, by rw [hL1, hL3]; simp; omega⟩
        · obtain ⟨y, m4, y1, y2, y3⟩ := nfJ145 (n := n) (l1 := nI d) hn hmm3 hnf
          refine ⟨y, m4, y1, y2, Or.inr (Or.inl ⟨wF w3, ?_, y3⟩)⟩
          unfold f_X4_readModule_J123
          exact op_seq (Pn1 := fun _ _ => False) (pass_bw hC hcc3 hbw (by decide)) (fun _ _ _ _ _ y => y.elim)
      · obtain ⟨c', b', t1, t2⟩ := c_refuse (n := n) (k := 3) (pl := wF w1) hC hc1.1
        have f2 : md_fr [27] m1 (mSA m1 27 d (-1)) := md_fr_SA (md_fr_refl _ _) (by decide) _ _
        have hX2 : LX B N c1 (mSA m1 27 d (-1)) w1 L1 := hX1.fr (cd_fr_refl _ [] []) f2 (by decide) (by decide) (by decide)
        obtain ⟨m', f1, f3, f4⟩ := m_failsW (n := n) (k := 3) hX2 (by decide) (by decide)
        have hJ : ∀ l1 : Int32, f_X4_readSuper_J39 n c1 b l1 = some (Sum.inr (c', b')) := fun l1 => by
          unfold f_X4_readSuper_J39
          rw [hX1.k.2.1, show f_X4_refuse n c1 b 3 (nI (wF w1)) = _ from t1, bs_some]
          exact ck_inr rfl (ble.refl _)
        have hrs : f_X4_readSuper n c b = some (Sum.inr (c', b')) := by
          unfold f_X4_readSuper
          refine ck_inr ?_ ⟨t2.2.2.2.1, t2.2.2.2.2.1⟩
          rw [a1, bs_some, c_needName1 (by rw [hX1.k.1]; exact hk2), bs_some]
          refine ck_inr ?_ ⟨t2.2.2.2.1, t2.2.2.2.2.1⟩
          dsimp only [Sum.elim]
          rw [hX1.k.2.2]
          rcases x2 with x2 | x2
          · rw [x2, bs_some]
            dsimp only
            rw [if_pos rfl, hJ]
          · rw [x2, bs_some]
            dsimp only
            rw [if_neg (nI_nem1 (a := d) (by omega)), hd1, if_pos rfl, hJ]
        refine outg_thr hrs t2 hc1 (ble.refl _) (x := 0) (m' := m') ?_ ((hm1.fr f2 (by decide)).fr f3 (by decide)) f4
        rw [x3, bs_some]
        dsimp only
        rw [m_st27 (by omega), bs_some, m_ld27 (by omega), bs_some, mA_SAe, if_pos rfl, show f_X12_fails n (mSA m1 27 d (-1)) 3 = _ from f1, bs_some]
    · obtain ⟨c', b', t1, t2⟩ := c_needName0 (n := n) hC hc1.1 hX1.k.2.1 (by rw [hX1.k.1]; exact hk2)
      have hrs : f_X4_readSuper n c b = some (Sum.inr (c', b')) := by
        unfold f_X4_readSuper
        refine ck_inr ?_ ⟨t2.2.2.2.1, t2.2.2.2.2.1⟩
        rw [a1, bs_some, t1, bs_some]
        exact ck_inr rfl (ble.refl _)
      obtain ⟨y, m4, y1, y2, y3⟩ := nfJ145 (n := n) (l1 := nI d) hn (hm1.fr e2 (by decide)) e3
      refine outg_thr hrs t2 hc1 (ble.refl _) (x := y) (m' := m4) ?_ y2 y3
      rw [e1, bs_some]
      dsimp only
      rw [if_pos rfl]
      exact y1
  · obtain ⟨c', b', t1, t2⟩ := c_needName0 (n := n) hC hc1.1 hbw.2 (by rw [hbw.1]; decide)
    have hrs : f_X4_readSuper n c b = some (Sum.inr (c', b')) := by
      unfold f_X4_readSuper
      refine ck_inr ?_ ⟨t2.2.2.2.1, t2.2.2.2.2.1⟩
      rw [a1, bs_some, t1, bs_some]
      exact ck_inr rfl (ble.refl _)
    obtain ⟨y, m4, y1, y2, y3⟩ := nfJ145 (n := n) (l1 := nI d) hn hm1 hnf
    refine outg_thr hrs t2 hc1 (ble.refl _) (x := y) (m' := m4) ?_ y2 y3
    rw [nf_isName hnf, bs_some]
    dsimp only
    rw [if_pos rfl]
    exact y1
