/-! check and able, in step -/
theorem sg91 : ∀ k, k ∈ vks → ((mWd k = 5 ∧ mVl k = 91) ↔ k = 91) := by decide
theorem sg93 : ∀ k, k ∈ vks → ((mWd k = 5 ∧ mVl k = 93) ↔ k = 93) := by decide
theorem asking_ok {n : Nat} {C : Nat × Nat} {B : Nat → Int32} {N : Nat} {rc : cd_R} {rm : md_R} {a t kk : Int32} {dm kd : Nat} (hC : BC C) (hn : 5000 ≤ n) (hkd : kd ≤ 30) (ht : kk = 227 ∧ t = 25 ∨ kk = 228 ∧ t = 26) (hx : EX C B N (fun c b => rc 0 0 (a + 1) 0 c b) (fun m => rm 0 0 0 0 m) dm kd 6) (hnx : NFX (fun m => rm 0 0 0 0 m)) (hbx : BWX C (fun c b => rc 0 0 (a + 1) 0 c b)) : EXw C B N (fun k => k = kk) (fun c b => f_X4_readAsking n rc c b t a) (fun m => f_X12_asking n rm m) dm kd 3 := by
  intro c0 m0 c m b w L O mc k kl hc hm h hkw hs h63 hkl
  dsimp only at hkw ⊢
  unfold f_X4_readAsking f_X12_asking
  refine out_ck ?_
  rcases part_st (n := n) hC hc hm h hs with ⟨c', b', m', e1, e2, e3, e4, e5⟩ | ⟨c2, m2, e1, e2, hc2, hm2, h2, hs2, hg2, hp2, hb2, fc2, fm2⟩
  · refine out_thr e1 e3 hc (ble.refl _) (x := 0) (m' := m') ?_ e4 e5
    rw [e2, bs_some]
    rfl
  · refine out_c e1 ?_
    dsimp only
    rw [e2, bs_some]
    dsimp only
    rw [if_neg ne10]
    have hag : AGR c2 m2 := by
      obtain ⟨-, -, -, -, -, -, -, -, z, -⟩ := hs2
      exact z
    obtain ⟨g1, g2, g3, g4⟩ := hag
    obtain ⟨i, hi⟩ : ∃ i, i = mN m2 48 := ⟨_, rfl⟩
    rw [← hi] at g1 g2 g3 g4
    unfold f_X4_readAsking_J22
    rw [g1]
    by_cases hi4 : i = 24
    · rw [g2, hi4, if_pos (show (24 : Int32) ≤ nI 24 by decide), if_pos (show nI 24 = (24 : Int32) from rfl)]
      obtain ⟨c', b', r1, r2⟩ := c_room0 (n := n) hC hc2.1 h2.k.2.1
      obtain ⟨m', f1, f2, f3⟩ := m_failsW (n := n) (k := 4) h2 (by decide) (by decide)
      refine out_thr r1 r2 hc2 (ble.refl _) (x := 0) (m' := m') ?_ (hm2.fr f2 (by decide)) f3
      rw [show f_X12_fails n m2 4 = _ from f1, bs_some]
    · have hi24 : i < 24 := by omega
      have nle : ¬ (24 : Int32) ≤ nI i := fun y => absurd ((nI_leI (a := 24) (by decide) (by omega)).mp y) (by omega)
      rw [if_neg nle, g2, if_neg (show ¬ nI i = (24 : Int32) from fun y => hi4 ((nI_eq (b := 24) (by omega) (by decide)).mp y)), bs_some, nI_1]
      refine out_c c_room1 ?_
      dsimp only
      rw [g1]
      -- the node
      obtain ⟨nd, lc0, hnd, n1, hbn⟩ := BN.new (n := n) (t := t) (x := nI i) (y := 0) hs hs2 hg2 hp2 hb2 (cd_frI fc2 (by decide) (by decide) _) (rL_fr fc2 (by simp)) (mN_fr fm2 (by decide))
      obtain ⟨mS, hmS⟩ : ∃ z, z = ndm m2 nd t (nI i) 0 := ⟨_, rfl⟩
      rw [← hmS] at hbn
      have fS : md_fr [65, 66, 67, 68, 69, 70, 71, 72] m2 mS := by rw [hmS]; exact ndm_fr _ _ _ _ _
      have n2 : f_X12_node n (mSI m2 48 (nI (i + 1))) t (nI i) 0 = some (nI nd, mSI mS 48 (nI (i + 1))) := by
        have h65 : mI m2 65 = nI nd := by
          have hq := hs2.now.2.2.2.2.2.2.1
          have := m_node (n := n) (k := t) (x := nI i) (y := 0) hq (by have := hs2.nv.2.2.2.1; omega)
          rw [n1] at this
          have := congrArg Prod.fst (Option.some.inj this)
          rw [hq]; exact this.symm
        rw [m_node (i := nd) (by rw [mI_SIo (by decide)]; exact h65) hnd, ndm48, hmS]
      have hv11 : mI (mSI m2 48 (nI (i + 1))) 11 = mVl kk := by
        rw [mI_SIo (by decide), h2.mw.2.2.1 (Or.inl (by rw [hkw]; rcases ht with ⟨rfl, -⟩ | ⟨rfl, -⟩ <;> decide)), hkw]
      have hsel : (if mI (mSI m2 48 (nI (i + 1))) 11 = (17 : Int32) then (f_X12_asking_J57 n rm (mSI m2 48 (nI (i + 1))) (nI i) 25) else (f_X12_asking_J57 n rm (mSI m2 48 (nI (i + 1))) (nI i) 26)) = f_X12_asking_J57 n rm (mSI m2 48 (nI (i + 1))) (nI i) t := by
        rw [hv11]
        rcases ht with ⟨rfl, rfl⟩ | ⟨rfl, rfl⟩ <;> rfl
      rw [hsel]
      unfold f_X12_asking_J57
      rw [n2, bs_some]
      dsimp only
      -- addAsking
      obtain ⟨c3, hc3'⟩ : ∃ z, z = cSI (cSA c2 103 0 i (vp_nar .boolean 0)) 109 0 (nI (i + 1)) := ⟨_, rfl⟩
      have hadd : f_X3_addAsking n c2 = some (0, c3) := by
        unfold f_X3_addAsking
        have e9 : cI (cSA c2 103 0 i (vp_nar .boolean 0)) 109 0 = nI i := g1
        rw [g1, if_neg nle, c_st103 hi24, bs_some, e9, nI_1, bs_some, hc3']
      rw [hadd, bs_some]
      dsimp only
      have fc3 : cd_fr [103, 109] [] c2 c3 := by rw [hc3']; exact cd_fr_SI (cd_fr_SA (cd_fr_refl _ _ _) (by decide) _ _ _) (by decide) (by decide) _ _
      have f48 : md_fr [48] mS (mSI mS 48 (nI (i + 1))) := md_fr_SI (md_fr_refl _ _) (by decide) _
      have hX3 : LX B N c3 (mSI mS 48 (nI (i + 1))) w L := ((h2.fr (cd_fr_refl _ [] []) fS (by decide) (by decide) (by decide)).fr fc3 f48 (by decide) (by decide) (by decide))
      obtain ⟨c4, m4, a1, a2, a3, a4, ⟨w4, L4, hL4, a5⟩, a6⟩ := adv_ok (n := n) hn hX3 (by rw [hkw]; rcases ht with ⟨rfl, -⟩ | ⟨rfl, -⟩ <;> decide)
      rw [a1, bs_some, a2, bs_some]
      dsimp only
      have hc4 : CI C c0 b c4 b := (hc2.fr fc3 (by decide)).fr a3 (by decide)
      have hm4 : MI m0 m4 := ((hm2.fr fS (by decide)).fr f48 (by decide)).fr a4 (by decide)
      rcases a5 with hX4 | ⟨hbw, hnf⟩
      · rcases m_isName (n := n) hX4 with ⟨hk4, hq1⟩ | ⟨hk4, m5, hq1, hf1, hn1⟩
        · refine out_c (c_needName1 (hX4.k.1.trans hk4)) ?_
          dsimp only
          rw [hq1, bs_some, bs_some]
          dsimp only
          rw [if_neg ne10, m_st49 hi24, bs_some, m_st136 hi24, bs_some, hX4.k.2.2]
          obtain ⟨c5, hc5'⟩ : ∃ z, z = cSJ c4 160 193 (wX w4) := ⟨_, rfl⟩
          obtain ⟨m5, hm5'⟩ : ∃ z, z = mSA (mSL m4 49 i (mJ m4 12)) 136 i (vp_nar .boolean 0) := ⟨_, rfl⟩
          rw [← hc5', ← hm5']
          have fc5 : cd_fr [160] [] c4 c5 := by rw [hc5']; exact cd_fr_SJ (cd_fr_refl _ _ _) (by decide) _ _
          have fm5 : md_fr [49, 136] m4 m5 := by rw [hm5']; exact md_fr_SA (md_fr_SL (md_fr_refl _ _) (by decide) _ _) (by decide) _ _
          have hX5 : LX B N c5 m5 w4 L4 := hX4.fr fc5 fm5 (by decide) (by decide) (by decide)
          obtain ⟨c6, m6, b1, b2, b3, b4, ⟨w6, L6, hL6, b5⟩, b6⟩ := adv_ok (n := n) hn hX5 (by rw [hk4]; decide)
          rw [b1, bs_some, b2, bs_some]
          dsimp only
          have hc6 : CI C c0 b c6 b := (show CI C c0 b c5 b by rw [hc5']; exact hc4.sj).fr b3 (by decide)
          have hm6 : MI m0 m6 := (hm4.fr fm5 (by decide)).fr b4 (by decide)
          -- the model behind a fault
          have nf1 : ∀ (z : md_S) (k2 pl : Nat), MI m0 z → NF z k2 pl → ∃ x2 z2, (Option.bind (f_X12_isSign n z (91 : Int32)) fun p8 => if p8.1 = 0 then (some (nI nd, p8.2)) else (Option.bind (mstZ p8.2 136 (nI i) 1) fun σ9 => Option.bind (f_X12_next n σ9 ) fun p10 => Option.bind (rm 0 0 0 0 p10.2) fun p11 => Option.bind (f_X12_gets n p11.2 (nI nd) (p11.1)) fun p12 => Option.bind (f_X12_sign n p12.2 (93 : Int32)) fun p13 => some (nI nd, p13.2))) = some (x2, z2) ∧ MI m0 z2 ∧ NF z2 k2 pl := by
            intro z k2 pl h1 h2
            rw [nf_isSign h2, bs_some]
            exact ⟨_, _, rfl, h1, h2⟩
          have fc46 : cd_fr [98, 99, 103, 107, 109, 160, 161, 162, 163, 327, 328, 329, 330] [] c2 c6 := cd_fr_tr (cd_fr_tr (cd_fr_tr fc3 a3 (L3 := [98, 99, 103, 107, 109, 160, 161, 162, 163, 327, 328, 329, 330]) (fun k hk => ⟨nin (by decide) hk, nin (by decide) hk⟩) (fun k hk => ⟨hk, hk⟩)) fc5 (fun k hk => ⟨hk, nin (by decide) hk⟩) (fun k hk => ⟨hk, hk⟩)) b3 (fun k hk => ⟨hk, nin (by decide) hk⟩) (fun k hk => ⟨hk, hk⟩)
          have fm46 : md_fr [6, 7, 8, 9, 10, 11, 12, 13, 14, 15, 17, 18, 19, 22, 23, 24, 48, 49, 136] mS m6 := md_fr_tr (md_fr_tr (md_fr_tr f48 a4 (L3 := [6, 7, 8, 9, 10, 11, 12, 13, 14, 15, 17, 18, 19, 22, 23, 24, 48, 49, 136]) (fun k hk => ⟨nin (by decide) hk, nin (by decide) hk⟩)) fm5 (fun k hk => ⟨hk, nin (by decide) hk⟩)) b4 (fun k hk => ⟨hk, nin (by decide) hk⟩)
          have h109' : cI c6 109 0 = nI (i + 1) := by rw [cd_frI b3 (by decide) (by decide), cd_frI fc5 (by decide) (by decide), cd_frI a3 (by decide) (by decide), hc3', cI_SIe]
          have cn0 : cN c 66 = mN m 35 := hs.nv.2.2.2.2.2.1
          have e240 : (240 : Int32) + nI i = nI (240 + i) := by rw [show (240 : Int32) = nI 240 from rfl, nI_add]
          rw [e240]
          rcases b5 with hX6 | ⟨hbw, hnf⟩
          · refine out_seq (pat_ok (p := 240 + i) (pl := 1) hC hn hc6 hm6 hX6 (by omega) (by have := kB_le m0; omega) (Or.inr rfl)) ?_ ?_ (fun _ z k2 pl h1 h2 => nf1 z k2 pl h1 h2)
            · rintro v7 c7 b7 x7 m7 hc7 hm7 ⟨rfl, ⟨w7, L7, hL7, hX7⟩, rp, r163, rx, px, fc7, fm7, s7⟩
              dsimp only
              have h109 : cI c7 109 0 = nI (i + 1) := by rw [cd_frI fc7 (by decide) (by decide)]; exact h109'
              obtain ⟨c8, t1, t2, t3, t4, t5, t6⟩ := c_setAsking (n := n) (i := i) (by omega) hi24 h109
              rw [t1, bs_some]
              dsimp only
              have hX8 : LX B N c8 m7 w7 L7 := hX7.fr t2.2 (md_fr_refl _ []) (by decide) (by decide) (by decide)
              have fc8 : cd_fr [98, 99, 103, 107, 109, 160, 161, 162, 163, 327, 328, 329, 330] [] c2 c8 := cd_fr_tr (cd_fr_tr fc46 fc7 (fun k hk => ⟨hk, nin (by decide) hk⟩) (fun k hk => ⟨hk, hk⟩)) t2.2 (fun k hk => ⟨hk, nin (by decide) hk⟩) (fun k hk => ⟨hk, hk⟩)
              have fm8 : md_fr [6, 7, 8, 9, 10, 11, 12, 13, 14, 15, 17, 18, 19, 22, 23, 24, 48, 49, 136] mS m7 := md_fr_tr fm46 fm7 (fun k hk => ⟨hk, nin (by decide) hk⟩)
              have h48 : mI m7 48 = nI (i + 1) := by rw [md_frI fm7 (by decide), md_frI b4 (by decide), md_frI fm5 (by decide), md_frI a4 (by decide), mI_SIe]
              have x49 : ∀ x, mL m7 49 x = mL m5 49 x := fun x => by rw [md_frL fm7 (by decide), md_frL b4 (by decide)]
              have x136 : ∀ x, mA m7 136 x = mA m5 136 x := fun x => by rw [md_frA fm7 (by decide), md_frA b4 (by decide)]
              have x103 : ∀ x, cAr c8 103 0 x = cAr c3 103 0 x := fun x => by rw [cd_frA t2.2 (by decide) (by decide), cd_frA fc7 (by decide) (by decide), cd_frA b3 (by decide) (by decide), cd_frA fc5 (by decide) (by decide), cd_frA a3 (by decide) (by decide)]
              have x103' : ∀ x, cAr c3 103 0 x = cAr (cSA c2 103 0 i (vp_nar .boolean 0)) 103 0 x := fun x => by rw [hc3']; rfl
              have e136 : mA m5 136 i = 0 := by rw [hm5', mA_SAe]; decide
              have hR : ∀ x, x ≠ 193 → x ≠ 168 + i → cI c8 162 x = cI c2 162 x ∧ cI c8 163 x = cI c2 163 x ∧ cJ c8 160 x = cJ c2 160 x ∧ ∀ y, cLr c8 161 x y = cLr c2 161 x y := by
                intro x h1 h2
                obtain ⟨u1, u2, u3, u4⟩ := t2.1 x h2
                obtain ⟨v1, v2, v3, v4⟩ := rx.1 x h1
                refine ⟨?_, ?_, ?_, fun y => ?_⟩
                · rw [u1, v1, cd_frI b3 (by decide) (by decide), cd_frI fc5 (by decide) (by decide), cd_frI a3 (by decide) (by decide), cd_frI fc3 (by decide) (by decide)]
                · rw [u2, v2, cd_frI b3 (by decide) (by decide), cd_frI fc5 (by decide) (by decide), cd_frI a3 (by decide) (by decide), cd_frI fc3 (by decide) (by decide)]
                · rw [u3, v3, cd_frJ b3 (by decide) (by decide), hc5', cJ_SJi h1, cd_frJ a3 (by decide) (by decide), cd_frJ fc3 (by decide) (by decide)]
                · rw [u4, v4, cd_frL b3 (by decide) (by decide), cd_frL fc5 (by decide) (by decide), cd_frL a3 (by decide) (by decide), cd_frL fc3 (by decide) (by decide)]
              have hPX : PX mS m7 (240 + i) := by
                intro x hx
                obtain ⟨u1, u2, u3⟩ := px x hx
                refine ⟨?_, ?_, fun y hy => ?_⟩
                · rw [u1, md_frA b4 (by decide), md_frA fm5 (by decide), md_frA a4 (by decide), md_frA f48 (by decide)]
                · rw [u2, md_frA b4 (by decide), md_frA fm5 (by decide), md_frA a4 (by decide), md_frA f48 (by decide)]
                · rw [u3 y hy, md_frL b4 (by decide), md_frL fm5 (by decide), md_frL a4 (by decide), md_frL f48 (by decide)]
              have hpol : cI c8 106 0 = cI c2 106 0 ∧ cI c8 107 0 = cI c2 107 0 ∧ (∀ x, cAr c8 98 0 x = cAr c2 98 0 x) ∧ (∀ x, cAr c8 99 0 x = cAr c2 99 0 x) ∧ mI m7 22 = mI mS 22 ∧ (∀ x, mA m7 23 x = mA mS 23 x) ∧ ∀ x, mL m7 24 x = mL mS 24 x := by
                refine ⟨cd_frI fc8 (by decide) (by decide) 0, ?_, fun x => ?_, fun x => ?_, ?_, fun x => ?_, fun x => ?_⟩
                · rw [cd_frI t2.2 (by decide) (by decide), cd_frI fc7 (by decide) (by decide), cd_frI b3 (by decide) (by decide), cd_frI fc5 (by decide) (by decide), cd_frI a3 (by decide) (by decide), cd_frI fc3 (by decide) (by decide)]
                · rw [cd_frA t2.2 (by decide) (by decide), cd_frA fc7 (by decide) (by decide), cd_frA b3 (by decide) (by decide), cd_frA fc5 (by decide) (by decide), cd_frA a3 (by decide) (by decide), cd_frA fc3 (by decide) (by decide)]
                · rw [cd_frA t2.2 (by decide) (by decide), cd_frA fc7 (by decide) (by decide), cd_frA b3 (by decide) (by decide), cd_frA fc5 (by decide) (by decide), cd_frA a3 (by decide) (by decide), cd_frA fc3 (by decide) (by decide)]
                · rw [md_frI fm7 (by decide), md_frI b4 (by decide), md_frI fm5 (by decide), md_frI a4 (by decide), md_frI f48 (by decide)]
                · rw [md_frA fm7 (by decide), md_frA b4 (by decide), md_frA fm5 (by decide), md_frA a4 (by decide), md_frA f48 (by decide)]
                · rw [md_frL fm7 (by decide), md_frL b4 (by decide), md_frL fm5 (by decide), md_frL a4 (by decide), md_frL f48 (by decide)]
              have hrp8 : RP c8 m7 (168 + i) (240 + i) := by
                obtain ⟨aa, tl, r1, r2, r3, r4, r5, r6, r7⟩ := rp
                exact ⟨aa, tl, r1, r2, t3.trans r3, t4.trans r4, r5, r6, fun y hy => by rw [t6 y (by omega)]; exact r7 y hy⟩
              have hnr8 : NR (cJ c8 160 (168 + i)) (mL m7 49 i) := by
                rw [t5, rx.2, cd_frJ b3 (by decide) (by decide), hc5', cJ_SJe, x49, hm5', mL_SA, mL_SLe]
                exact hX4.mw.2.2.2.2.2.1 hk4
              have i48 : mN mS 48 = i := by rw [mN_fr fS (by decide)]; exact hi.symm
              obtain ⟨hs8, hg8⟩ := ST.ask hbn.1 i48 hi24 fc8 fm8 (by rw [s7, b6 hX6.fine, md_frI fm5 (by decide), a6 hX4.fine, md_frI f48 (by decide)]) (by rw [cd_frI t2.2 (by decide) (by decide)]; exact h109) h48 hR hPX (fun x hx => by rw [x49, hm5', mL_SA, mL_SLi hx, md_frL a4 (by decide), md_frL f48 (by decide)]) (fun x hx => by rw [x136, hm5', mA_SAi hx, mA_SL, md_frA a4 (by decide), md_frA f48 (by decide)]) (fun x hx => by rw [x103, x103', cA_SAi hx]) hpol ⟨hrp8, hnr8, ⟨by rw [t4]; exact r163.1 rfl, by rw [t3]; exact r163.2⟩, Or.inl (by rw [x136]; exact e136), by rw [x103, x103', cA_SAe, x136, e136]; decide⟩
              have hbn8 := hbn.go hs hs8 hg8 (cd_frI fc8 (by decide) (by decide) _) (rL_fr fc8 (by simp)) (mN_fr fm8 (by decide))
              have hc8 : CI C c0 b7 c8 b7 := hc7.here.rx t2.2 (by decide) (fun x hx => t2.1 x (by omega))
              have n48 : mN m7 48 = i + 1 := mN_of h48 (by omega)
              have ht' : t ≠ 40 ∧ t ≠ 41 ∧ t ≠ 19 ∧ t ≠ 42 ∧ t ≠ 2 ∧ t ≠ 9 ∧ t ≠ 10 := by rcases ht with ⟨-, rfl⟩ | ⟨-, rfl⟩ <;> decide
              rw [hX8.k.1, m_isSign hX8.fine hX8.mw sg91, bs_some]
              dsimp only
              by_cases hk7 : wK w7 = 91
              · rw [if_pos hk7, if_pos hk7, if_neg ne10]
                -- with an index
                have h109i : ¬ cI c8 109 0 ≤ nI i := by
                  rw [cd_frI t2.2 (by decide) (by decide), h109]
                  exact fun z => absurd ((nI_leI (by omega) (by omega)).mp z) (by omega)
                obtain ⟨c9, hc9'⟩ : ∃ z, z = cSA c8 103 0 i (vp_nar .boolean 1) := ⟨_, rfl⟩
                have hsi : f_X3_setIndexed n c8 (nI i) = some (0, c9) := by
                  unfold f_X3_setIndexed
                  rw [if_neg (show ¬ nI i < 0 from nI_nn (by omega)), if_neg h109i, c_st103 hi24, bs_some, hc9']
                obtain ⟨m9, hm9'⟩ : ∃ z, z = mSA m7 136 i (vp_nar .boolean 1) := ⟨_, rfl⟩
                rw [hsi, bs_some, m_st136 hi24, bs_some, ← hm9']
                dsimp only
                have fc9 : cd_fr [103] [] c8 c9 := by rw [hc9']; exact cd_fr_SA (cd_fr_refl _ _ _) (by decide) _ _ _
                have fm9 : md_fr [136] m7 m9 := by rw [hm9']; exact md_fr_SA (md_fr_refl _ _) (by decide) _ _
                have hX9 : LX B N c9 m9 w7 L7 := hX8.fr fc9 fm9 (by decide) (by decide) (by decide)
                have fc89 : cd_fr [98, 99, 103, 107, 109, 160, 161, 162, 163, 327, 328, 329, 330] [] c2 c9 := cd_fr_tr fc8 fc9 (fun k hk => ⟨hk, nin (by decide) hk⟩) (fun k hk => ⟨hk, hk⟩)
                have fm89 : md_fr [6, 7, 8, 9, 10, 11, 12, 13, 14, 15, 17, 18, 19, 22, 23, 24, 48, 49, 136] mS m9 := md_fr_tr fm8 fm9 (fun k hk => ⟨hk, nin (by decide) hk⟩)
                have e1369 : mA m9 136 i = 1 := by rw [hm9', mA_SAe]; decide
                have hst9 : ST c9 m9 O mc (k + 6) kl ∧ GR c2 c9 mS m9 := by
                  refine ST.ask hbn.1 i48 hi24 fc89 fm89 (by rw [md_frI fm9 (by decide), s7, b6 hX6.fine, md_frI fm5 (by decide), a6 hX4.fine, md_frI f48 (by decide)]) (by rw [cd_frI fc9 (by decide) (by decide), cd_frI t2.2 (by decide) (by decide)]; exact h109) (by rw [md_frI fm9 (by decide)]; exact h48) (fun x h1 h2 => ?_) (fun x hx => ?_) (fun x hx => by rw [md_frL fm9 (by decide), x49, hm5', mL_SA, mL_SLi hx, md_frL a4 (by decide), md_frL f48 (by decide)]) (fun x hx => by rw [hm9', mA_SAi hx, x136, hm5', mA_SAi hx, mA_SL, md_frA a4 (by decide), md_frA f48 (by decide)]) (fun x hx => by rw [hc9', cA_SAi hx, x103, x103', cA_SAi hx]) ⟨by rw [cd_frI fc9 (by decide) (by decide)]; exact hpol.1, by rw [cd_frI fc9 (by decide) (by decide)]; exact hpol.2.1, fun x => by rw [cd_frA fc9 (by decide) (by decide)]; exact hpol.2.2.1 x, fun x => by rw [cd_frA fc9 (by decide) (by decide)]; exact hpol.2.2.2.1 x, by rw [md_frI fm9 (by decide)]; exact hpol.2.2.2.2.1, fun x => by rw [md_frA fm9 (by decide)]; exact hpol.2.2.2.2.2.1 x, fun x => by rw [md_frL fm9 (by decide)]; exact hpol.2.2.2.2.2.2 x⟩ ⟨hrp8.to (CE.of fc9 (by decide)) (ME.of fm9 (by decide)), by rw [cd_frJ fc9 (by decide) (by decide), md_frL fm9 (by decide)]; exact hnr8, ⟨by rw [cd_frI fc9 (by decide) (by decide), t4]; exact r163.1 rfl, by rw [cd_frI fc9 (by decide) (by decide), t3]; exact r163.2⟩, Or.inr e1369, by rw [e1369, hc9', cA_SAe]; decide⟩
                  · obtain ⟨z1, z2, z3, z4⟩ := hR x h1 h2
                    exact ⟨by rw [cd_frI fc9 (by decide) (by decide)]; exact z1, by rw [cd_frI fc9 (by decide) (by decide)]; exact z2, by rw [cd_frJ fc9 (by decide) (by decide)]; exact z3, fun y => by rw [cd_frL fc9 (by decide) (by decide)]; exact z4 y⟩
                  · obtain ⟨z1, z2, z3⟩ := hPX x hx
                    exact ⟨by rw [md_frA fm9 (by decide)]; exact z1, by rw [md_frA fm9 (by decide)]; exact z2, fun y hy => by rw [md_frL fm9 (by decide)]; exact z3 y hy⟩
                have hbn9 := hbn.go hs hst9.1 hst9.2 (cd_frI fc89 (by decide) (by decide) _) (rL_fr fc89 (by simp)) (mN_fr fm89 (by decide))
                obtain ⟨c10, m10, u1, u2, u3, u4, ⟨w10, L10, hL10, u5⟩, u6⟩ := adv_ok (n := n) hn hX9 (by rw [hk7]; decide)
                rw [u1, bs_some, u2, bs_some]
                dsimp only
                have hc10 : CI C c0 b7 c10 b7 := (hc8.fr fc9 (by decide)).fr u3 (by decide)
                have hm10 : MI m0 m10 := (hm7.fr fm9 (by decide)).fr u4 (by decide)
                have nf2 : ∀ (z : md_S) (k2 pl : Nat) (x : Int32), MI m0 z → NF z k2 pl → ∃ x2 z2, (Option.bind (f_X12_gets n z (nI nd) x) fun p12 => Option.bind (f_X12_sign n p12.2 (93 : Int32)) fun p13 => some (nI nd, p13.2)) = some (x2, z2) ∧ MI m0 z2 ∧ NF z2 k2 pl := by
                  intro z k2 pl x h1 h2
                  rw [nf_gets h2, bs_some]
                  dsimp only
                  rw [nf_sign h2, bs_some]
                  exact ⟨_, _, rfl, h1, h2⟩
                rcases u5 with hX10 | ⟨hbw, hnf⟩
                · have hbn10 := hbn9.adv hs u3 u4 (u6 hX10.fine)
                  refine out_seq (hx c0 m0 c10 m10 b7 w10 L10 O mc (k + 6) kl hc10 hm10 hX10 (hbn10.1.debt (by omega) (by omega) (Nat.le_refl _)) (hbn10.2.1.n63.trans h63) hkl) ?_ ?_ (fun x z k2 pl h1 h2 => nf2 z k2 pl x h1 h2)
                  · intro v11 c11 b11 x11 m11 hc11 hm11 hE11
                    dsimp only
                    obtain ⟨r1, es1, l1, nn1, m12, y1, hbn12, y3, hkp12, w12, L12, hX12, hl12⟩ := hbn10.read hn hs hE11 (by omega) (fun _ => by omega)
                    rw [y1, bs_some]
                    dsimp only
                    refine out_seq (pass_out (s := 93) (sk := 93) hC hn hc11.here (hm11.fr y3 (by decide)) hX12 sg93 (by decide)) ?_ ?_ (fun x z k2 pl h1 h2 => ⟨_, _, rfl, h1, h2⟩)
                    · rintro v13 c13 b13 x13 m13 hc13 hm13 ⟨rfl, hk13, ⟨w13, L13, hL13, hX13⟩, fc13, fm13, s13⟩
                      dsimp only
                      unfold f_X4_readAsking_J129
                      have hbn13 := hbn12.adv hs fc13 fm13 s13
                      obtain ⟨b14, d1, d2, d3, d4, d5, d6⟩ := BN.emit (n := n) (k := k + 5) (e1 := t) (e2 := nI i) (e3 := 0) hC hc13.here hbn13 hX13
                      rw [d1, bs_some]
                      refine out_em d2 d3 ?_
                      dsimp only
                      obtain ⟨z1, z2, z3⟩ := cmb_op (l0 := lc0) (ess := [] ++ [es1]) d5.2.2.2.1 ht'
                      refine ⟨nI nd, m13, rfl, hm13, Or.inl ⟨0, _, b14, rfl, d4, ?_⟩⟩
                      have h48' : i < mN m13 48 := by
                        have e1 : mN m13 48 = mN m12 48 := mN_fr fm13 (by decide)
                        have e2 := hkp12.2.2.2.2.2.1
                        have e3 : mN m10 48 = mN m7 48 := by rw [mN_fr u4 (by decide), mN_fr fm9 (by decide)]
                        omega
                      have h136' : mA m13 136 (aN m13 68 nd) = 1 := by
                        rw [aN_of d5.2.2.2.2.1 (by omega), md_frA fm13 (by decide)]
                        have e9 := hkp12.2.2.2.2.2.2.2.2.2 i (by rw [mN_fr u4 (by decide), mN_fr fm9 (by decide)]; omega)
                        rw [e9, md_frA u4 (by decide)]; exact e1369
                      refine (d5.debt (Nat.le_refl _) (by omega) (show k ≤ k + 5 by omega)).fin d6 ?_ ?_ z3 ?_ ?_
                      · rw [hL4, hL6, hL7]; rw [hL10] at *; rw [hL13] at hl12; simp at hl12 ⊢; omega
                      · rw [← d5.2.2.2.1, z2]; rfl
                      · refine Or.inr (Or.inr (Or.inr (Or.inr (Or.inr (Or.inr (Or.inr (Or.inr (Or.inr (Or.inr (Or.inl ⟨?_, ⟨by simp, by simp; exact h136'⟩, ⟨i, d5.2.2.2.2.1, h48'⟩, d5.2.2.2.2.2.1⟩))))))))))
                        rw [d5.2.2.2.1]
                        rcases ht with ⟨-, rfl⟩ | ⟨-, rfl⟩ <;> decide
                      · rw [z1, d5.2.2.2.2.1, d5.2.2.2.2.2.1]; simp
                    · rintro v13 c13 b13 pl hc13 hbw ⟨rfl, fc13⟩
                      dsimp only
                      unfold f_X4_readAsking_J129
                      have hcs := CS.adv hbn12.1.1 fc13
                      obtain ⟨u, b14, q1, q2, q3, q4, q5, q6, q7⟩ := CS.em (n := n) (k := k + 5) (x := t) (y := nI i) (z := 0) hC hcs.1 hc13
                      rw [q2, bs_some]
                      refine op_em q3 q4 ?_
                      refine Or.inl ⟨0, _, b14, rfl, q5, hbw.em, q6.less (by omega), ?_⟩
                      have := hbn12.1.nv.2.2.2.2.2.1
                      have := hbn12.2.1.n35
                      rw [q7, hcs.2]; omega
                  · rintro v11 c11 b11 pl hc11 hbw ⟨hcs11, hle⟩
                    dsimp only
                    exact op_seq (Pn1 := fun _ _ => False) (pass_bw hC hc11.here hbw (by decide)) (fun _ _ _ _ _ y => y.elim)
                · obtain ⟨x2, q1, y1, y2, y3⟩ := hnx m0 m10 1 (wF w10) hm10 hnf
                  obtain ⟨x3, q3, y4, y5, y6⟩ := nf2 q1 1 (wF w10) x2 y2 y3
                  refine ⟨x3, q3, ?_, y5, Or.inr (Or.inl ⟨wF w10, ?_, y6⟩)⟩
                  · rw [show rm 0 0 0 0 m10 = _ from y1, bs_some]
                    exact y4
                  · exact op_seq (Pn1 := fun _ _ => False) (hbx c0 c10 b7 (wF w10) hc10 hbw) (fun _ _ _ _ _ y => y.elim)
              · rw [if_neg hk7, if_neg hk7, if_pos rfl]
                unfold f_X4_readAsking_J129
                obtain ⟨b14, d1, d2, d3, d4, d5, d6⟩ := BN.emit (n := n) (k := k + 5) (e1 := t) (e2 := nI i) (e3 := 0) hC hc8 hbn8 hX8
                rw [d1, bs_some]
                refine out_em d2 d3 ?_
                dsimp only
                obtain ⟨z1, z2, z3⟩ := cmb_op (l0 := lc0) (ess := []) d5.2.2.2.1 ht'
                refine ⟨nI nd, m7, rfl, hm7, Or.inl ⟨0, _, b14, rfl, d4, ?_⟩⟩
                have h136n : ¬ mA m7 136 (aN m7 68 nd) = 1 := by
                  rw [aN_of d5.2.2.2.2.1 (by omega), x136, e136]; decide
                refine (d5.debt (Nat.le_refl _) (by omega) (show k ≤ k + 5 by omega)).fin d6 ?_ ?_ z3 ?_ ?_
                · rw [hL4, hL6, hL7]; simp; omega
                · rw [← d5.2.2.2.1, z2]; rfl
                · refine Or.inr (Or.inr (Or.inr (Or.inr (Or.inr (Or.inr (Or.inr (Or.inr (Or.inr (Or.inr (Or.inl ⟨?_, ⟨by simp, by simp; exact h136n⟩, ⟨i, d5.2.2.2.2.1, by omega⟩, d5.2.2.2.2.2.1⟩))))))))))
                  rw [d5.2.2.2.1]
                  rcases ht with ⟨-, rfl⟩ | ⟨-, rfl⟩ <;> decide
                · rw [z1, d5.2.2.2.2.1, d5.2.2.2.2.2.1]; simp
            · rintro v7 c7 b7 pl hc7 hbw ⟨rfl, fc7⟩
              dsimp only
              have h109 : cI c7 109 0 = nI (i + 1) := by rw [cd_frI fc7 (by decide) (by decide)]; exact h109'
              obtain ⟨c8, t1, t2, t3, t4, t5, t6⟩ := c_setAsking (n := n) (i := i) (by omega) hi24 h109
              rw [t1, bs_some]
              dsimp only
              have fc8 : cd_fr [98, 99, 103, 107, 109, 160, 161, 162, 163, 327, 328, 329, 330] [] c2 c8 := cd_fr_tr (cd_fr_tr fc46 fc7 (fun k hk => ⟨hk, nin (by decide) hk⟩) (fun k hk => ⟨hk, hk⟩)) t2.2 (fun k hk => ⟨hk, nin (by decide) hk⟩) (fun k hk => ⟨hk, hk⟩)
              have e328 : cI c8 328 0 = 1 := by rw [cd_frI t2.2 (by decide) (by decide)]; exact hbw.1
              rw [e328, if_neg (by decide)]
              unfold f_X4_readAsking_J129
              have hcs8 : CS c8 (k + 6) := hs2.1.to (CE.of fc8 (by decide)) (fun i _ => cd_frz fc8 (by simp))
              obtain ⟨u, b14, q1, q2, q3, q4, q5, q6, q7⟩ := CS.em (n := n) (k := k + 5) (x := t) (y := nI i) (z := 0) hC hcs8 (hc7.rx t2.2 (by decide) (fun x hx => t2.1 x (by omega)))
              rw [q2, bs_some]
              refine op_em q3 q4 ?_
              have hbw8 : BW c8 pl := ⟨e328, by rw [cd_frI t2.2 (by decide) (by decide)]; exact hbw.2⟩
              refine Or.inl ⟨0, _, b14, rfl, q5, hbw8.em, q6.less (by omega), ?_⟩
              have e1 : cN c8 66 = cN c2 66 := by rw [cN, cN, cd_frI fc8 (by decide) (by decide)]
              have e2 := hs2.nv.2.2.2.2.2.1
              have e3 := hg2.n35
              rw [q7, e1]; omega
          · obtain ⟨x3, q3, y4, y5, y6⟩ := nf1 m6 1 (wF w6) hm6 hnf
            refine ⟨x3, q3, ?_, y5, Or.inr (Or.inl ⟨wF w6, ?_, y6⟩)⟩
            · rw [nf_pattern hnf, bs_some]
              exact y4
            · exact op_seq (Pn1 := fun _ _ => False) (pat_bw hC hc6 hbw) (fun _ _ _ _ _ y => y.elim)
        · obtain ⟨c', b', r1, r2⟩ := c_needName0 (n := n) hC hc4.1 hX4.k.2.1 (by rw [hX4.k.1]; exact hk4)
          refine out_thr r1 r2 hc4 (ble.refl _) (x := nI nd) (m' := m5) ?_ (hm4.fr hf1 (by decide)) hn1
          rw [hq1, bs_some]
          rfl
      · obtain ⟨c', b', r1, r2⟩ := c_needName0 (n := n) hC hc4.1 hbw.2 (by rw [hbw.1]; decide)
        refine ⟨nI nd, m4, ?_, hm4, Or.inr (Or.inl ⟨wF w4, op_thr r1 r2 hc4 (ble.refl _), hnf⟩)⟩
        rw [nf_isName hnf, bs_some]
        rfl
theorem nf_asking {n : Nat} {rm : md_R} : NFX (fun m => f_X12_asking n rm m) := by
  intro m0 m k pl hm h
  dsimp only
  obtain ⟨m', e1, e2, e3⟩ := nf_part (n := n) h
  unfold f_X12_asking
  rw [e1, bs_some]
  exact ⟨0, m', rfl, hm.fr e2 (by decide), e3⟩
