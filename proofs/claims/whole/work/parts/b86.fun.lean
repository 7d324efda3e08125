/-! fun in step -/
theorem ms_5664 {m : md_S} {x y : Int32} : mSI (mSI m 64 x) 56 y = mSI (mSI m 56 y) 64 x := by
  refine Prod.ext ?_ rfl
  funext j
  show (if j = 56 then y else if j = 64 then x else m.1 j) = (if j = 64 then x else if j = 56 then y else m.1 j)
  by_cases h1 : j = 56
  · rw [if_pos h1, if_neg (by omega), if_pos h1]
  · rw [if_neg h1]
    by_cases h2 : j = 64
    · rw [if_pos h2, if_pos h2]
    · rw [if_neg h2, if_neg h2, if_neg h1]
theorem fun_ok {n : Nat} {C : Nat × Nat} {B : Nat → Int32} {N : Nat} {rc : cd_R} {rm : md_R} {a : Int32} {dm kd : Nat} (hC : BC C) (hn : 5000 ≤ n) (hkd : kd ≤ 30) (hx : EXw C B N (fun k => k = 123) (fun c b => rc 18 0 a 0 c b) (fun m => rm 19 0 0 0 m) dm kd 6) : EXw C B N (fun k => k = 222) (fun c b => f_X4_readFun n rc c b a) (fun m => f_X12_fun n rm m) dm kd 3 := by
  intro c0 m0 c m b w L O mc k kl hc hm h hkw hs h63 hkl
  dsimp only at hkw ⊢
  unfold f_X4_readFun f_X12_fun
  refine out_ck ?_
  rcases part_st (n := n) hC hc hm h hs with ⟨c', b', m', e1, e2, e3, e4, e5⟩ | ⟨c2, m2, e1, e2, hc2, hm2, h2, hs2, hg2, hp2, hb2, fc2, fm2⟩
  · refine out_thr e1 e3 hc (ble.refl _) (x := 0) (m' := m') ?_ e4 e5
    rw [e2, bs_some]
    rfl
  · refine out_c e1 ?_
    dsimp only
    rw [e2, bs_some]
    dsimp only
    rw [if_neg ne10]
    -- the model behind a fault
    have nfJ : ∀ (z : md_S) (k2 pl : Nat) (u i l : Int32), NF z k2 pl → f_X12_fun_J78 n rm z u i l = some (i, z) := by
      intro z k2 pl u i l h2
      unfold f_X12_fun_J78
      rw [nf_isFine h2, bs_some]
      rfl
    have nf2 : ∀ (z : md_S) (k2 pl : Nat) (u i l : Int32), NF z k2 pl → (Option.bind (f_X12_isFine n z) fun p14 => if p14.1 = 0 then (f_X12_fun_J78 n rm p14.2 u i l) else (Option.bind (f_X12_isSign n p14.2 (123 : Int32)) fun p15 => if p15.1 = 0 then (Option.bind (f_X12_misfit n p15.2) fun p16 => f_X12_fun_J78 n rm p16.2 u i l) else (f_X12_fun_J78 n rm p15.2 u i l))) = some (i, z) := by
      intro z k2 pl u i l h2
      rw [nf_isFine h2, bs_some]
      dsimp only
      rw [if_pos rfl]
      exact nfJ z k2 pl u i l h2
    have nf1 : ∀ (z : md_S) (k2 pl : Nat) (u i l : Int32), NF z k2 pl → (Option.bind (f_X12_sign n z (41 : Int32)) fun p13 => Option.bind (f_X12_isFine n p13.2) fun p14 => if p14.1 = 0 then (f_X12_fun_J78 n rm p14.2 u i l) else (Option.bind (f_X12_isSign n p14.2 (123 : Int32)) fun p15 => if p15.1 = 0 then (Option.bind (f_X12_misfit n p15.2) fun p16 => f_X12_fun_J78 n rm p16.2 u i l) else (f_X12_fun_J78 n rm p15.2 u i l))) = some (i, z) := by
      intro z k2 pl u i l h2
      rw [nf_sign h2, bs_some]
      exact nf2 z k2 pl u i l h2
    have nfP : ∀ (z : md_S) (k2 pl : Nat) (u v : Int32), NF z k2 pl → f_X12_parameters n z u v = some (0, z) := by
      intro z k2 pl u v h2
      unfold f_X12_parameters
      rw [nf_sign h2, bs_some]
      dsimp only
      rw [nf_isFine h2, bs_some]
      rfl
    obtain ⟨q, hq, hcase⟩ := begin_ok (n := n) (s := 1) hC hc2 hm2 h2 hs2 (by omega) (by omega) (by omega)
    rw [hq, bs_some]
    rcases hcase with ⟨c', b', m', r1, r2, r3, r4, r5, r6⟩ | ⟨c3, m3, u, hu, hu60, r1, r2, hc3, hm3, h3, hs3, hg3, fc3, fm3, x1, x2, x3, x4, x5, x6, x7, x8, x9, x10⟩
    · have h65 : mI m' 65 = nI (mN m2 65) := by rw [md_frI r4 (by decide)]; exact hs2.now.2.2.2.2.2.2.1
      have hi9 : mN m2 65 < 900 := by have := hs2.nv.2.2.2.1; omega
      have f5 := ndm_fr m' (mN m2 65) 9 0 0
      have h6' : NF (ndm m' (mN m2 65) 9 0 0) 4 (wF w) := r6.fr f5 (by decide) (by decide)
      rw [show f_X12_newUnit n m2 1 q (mI m2 64) = _ from r3, bs_some]
      dsimp only
      rw [m_node h65 hi9, bs_some]
      dsimp only
      rw [nf_next h6', bs_some]
      dsimp only
      rw [nfP _ 4 (wF w) _ _ h6', bs_some]
      dsimp only
      rw [nf1 _ 4 (wF w) _ _ _ h6']
      refine ⟨_, _, rfl, r5.fr f5 (by decide), Or.inr (Or.inr ⟨c', b', 4, wF w, ?_, r2.tx hc2, h6'⟩)⟩
      rw [show f_X4_openUnit n c2 b 1 = _ from r1, bs_some]
      exact ck_inr rfl (ble.refl _)
    · have hu2 : mN m2 35 = mN m 35 := mN_fr fm2 (by decide)
      have hum : u = mN m 35 := by omega
      have hg3' : GR c c3 m m3 := GR.tr hs hg2 hg3
      have n64 := hg2.n64
      have hnow := hs.now
      have e62 : mN m3 62 = mN m2 62 := mN_fr fm3 (by decide)
      have e65 : mN m3 65 = mN m2 65 := mN_fr fm3 (by decide)
      have e50 : mN m3 50 = mN m2 50 := mN_fr fm3 (by decide)
      have hvb2 := hs2.vb
      have hs3' : ST c3 m3 (u :: O) (mc + 96) (k + 6 + 15) kl := hs3.shift (Nat.le_refl _) (by omega) (by omega) (by omega)
      obtain ⟨i, lc0, hi, n1, hbn⟩ := BN.new (n := n) (t := 9) (x := nI u) (y := 0) hs hs3' hg3' (by omega) (by omega) (by rw [← n64, x6, cd_frI fc2 (by decide) (by decide)]) (by
        have hne : 17 + 3 * mN m 64 ∉ [17 + 3 * u] := by simp; omega
        rw [rL_fr fc3 hne, rL_fr fc2 (by simp)]) (by rw [mN_fr fm3 (by decide), mN_fr fm2 (by decide)])
      obtain ⟨m4, hm4'⟩ : ∃ z, z = ndm m3 i 9 (nI u) 0 := ⟨_, rfl⟩
      rw [← hm4'] at n1 hbn
      have f4 : md_fr [65, 66, 67, 68, 69, 70, 71, 72] m3 m4 := by rw [hm4']; exact ndm_fr _ _ _ _ _
      have hclass : f_X4_openUnit n c2 b 1 = some (Sum.inl (u, c3, b)) := r1
      rw [hclass, bs_some, show f_X12_newUnit n m2 1 q (mI m2 64) = _ from r2, bs_some]
      refine out_ck ?_
      dsimp only [Sum.elim]
      rw [n1, bs_some, bs_some]
      dsimp only
      have B4 : ∀ f, f ∉ [65, 66, 67, 68, 69, 70, 71, 72] → ∀ j, mA m4 f j = mA m3 f j := fun f hf j => md_frA f4 hf j
      have hinn0 := INN.start hbn (by omega) (by rw [mN_fr f4 (by decide)]; omega) (by rw [B4 36 (by decide), x4]; decide) (by rw [B4 40 (by decide), x5, n64]) (by rw [B4 37 (by decide), B4 37 (by decide), x10, n64]) (by rw [B4 44 (by decide), x3])
      obtain ⟨cp, hcp⟩ : ∃ z, z = cSP c3 136 0 (u + 1) := ⟨_, rfl⟩
      rw [← hcp] at hinn0 ⊢
      have fcp : cd_fr [136] [] c3 cp := by rw [hcp]; exact cd_fr_SP (cd_fr_refl _ _ _) (by decide) _ _
      have hX4 : LX B N cp m4 w L := h3.fr fcp f4 (by decide) (by decide) (by decide)
      obtain ⟨c5, m5, a1, a2, a3, a4, ⟨w5, L5, hL5, a5⟩, a6⟩ := adv_ok (n := n) hn hX4 (by rw [hkw]; decide)
      rw [a1, bs_some, a2, bs_some]
      dsimp only
      have hc5 : CI C c0 b c5 b := (hc3.fr fcp (by decide)).fr a3 (by decide)
      have hm5 : MI m0 m5 := (hm3.fr f4 (by decide)).fr a4 (by decide)
      have cn0 : cN c 66 = mN m 35 := hs.nv.2.2.2.2.2.1
      have h134 : cI c2 134 0 = nI (mN m 56) := by
        rw [cd_frI fc2 (by decide) (by decide)]; exact hs.nv.2.2.2.2.2.2.2.2.2.2.2.2.2
      have h56m5 : mI m5 56 = nI (mN m 56) := by
        rw [md_frI a4 (by decide), md_frI f4 (by decide), md_frI fm3 (by decide), md_frI fm2 (by decide)]
        exact hs.nv.2.2.2.2.2.2.2.2.2.2.2.2.1
      rcases a5 with hX5 | ⟨hbw, hnf⟩
      · have h7 := a6 hX5.fine
        have hpf5 : PF u cp c5 (mSI m4 64 (nI u)) (mSI m5 64 (nI u)) := (PF.fr a3 a4 h7).hat
        have hN : ∀ (m : md_S) q, q ≠ 64 → mN (mSI m 64 (nI u)) q = mN m q := fun m q hq => by rw [mN, mN, mI_SIo hq]
        have h50' : mN m 50 ≤ mN (mSI m4 64 (nI u)) 50 := by
          have := hg3'.2.1.2.2.1
          rw [hN _ 50 (by decide), mN_fr f4 (by decide)]; exact this
        have hinn5 := hinn0.par hnow.1 (hinn0.1.adv a3 (md_fr64 a4)) hpf5 (mN_of mI_SIe (by omega)) h50'
        unfold f_X12_parameters
        rw [Option.bind_assoc]
        refine out_seq (pass_out (s := 40) (sk := 40) hC hn hc5 hm5 hX5 sg40 (by decide)) ?_ ?_ ?_
        · rintro v6 c6 b6 x6' m6 hc6 hm6 ⟨rfl, hk6, ⟨w6, L6, hL6, hX6⟩, fc6, fm6, s6⟩
          dsimp only
          have hpf6 : PF u c5 c6 (mSI m5 64 (nI u)) (mSI m6 64 (nI u)) := (PF.fr fc6 fm6 s6).hat
          have hinn6 := hinn5.par hnow.1 (hinn5.1.adv fc6 (md_fr64 fm6)) hpf6 (mN_of mI_SIe (by omega)) (by
            have := hinn5.2.2.2.2.1.2.1.2.2.1
            exact this)
          have M63 : ∀ f, f ∉ [6, 7, 8, 9, 10, 11, 12, 13, 14, 15, 65, 66, 67, 68, 69, 70, 71, 72] → ∀ j, mA m6 f j = mA m3 f j := fun f hf j => by
            rw [md_frA fm6 (fun y => hf (by revert y; simp; omega)), md_frA a4 (fun y => hf (by revert y; simp; omega)), md_frA f4 (fun y => hf (by revert y; simp; omega))]
          have h56m6 : mI m6 56 = mI m5 56 := md_frI fm6 (by decide)
          have hpar := params_ok (n := n) (off := 0) (mc := mc) hC hn hu60 hc6.here hm6 hX6 hinn6.1 (by rw [M63 39 (by decide)]; exact x8) (by rw [M63 46 (by decide)]; exact x9) (by
            unfold ub aN
            rw [M63 36 (by decide), x4, M63 39 (by decide), x8, if_neg (by decide)]; rfl)
          refine out_seq hpar ?_ ?_ ?_
          · rintro v7 c7 b7 x7' m7 hc7 hm7 ⟨rfl, p', w7, L7, hX7, hl7, hp', g39, g294, hs7, hpf7⟩
            dsimp only
            have hinn7 := hinn6.par hnow.1 hs7 hpf7.hat (mN_of mI_SIe (by omega)) (by
              have := hinn6.2.2.2.2.1.2.1.2.2.1
              exact this)
            refine out_seq (pass_out (s := 41) (sk := 41) hC hn hc7.here hm7 hX7 sg41 (by decide)) ?_ ?_ (fun _ z k2 pl h1 h2 => ⟨_, _, nf2 z k2 pl _ _ _ h2, h1, h2⟩)
            · rintro v8 c8 b8 x8' m8 hc8 hm8 ⟨rfl, hk8, ⟨w8, L8, hL8, hX8⟩, fc8, fm8, s8⟩
              dsimp only
              have hinn8 := hinn7.par hnow.1 (hinn7.1.adv fc8 (md_fr64 fm8)) (PF.fr fc8 fm8 s8).hat (mN_of mI_SIe (by omega)) (by
                have := hinn7.2.2.2.2.1.2.1.2.2.1
                exact this)
              rw [hX8.k.1, m_fine, bs_some, if_pos hX8.fine]
              dsimp only
              rw [if_neg ne10, m_isSign hX8.fine hX8.mw sg123, bs_some]
              dsimp only
              unfold f_X4_readFun_J61
              by_cases hk9 : wK w8 = 123
              · rw [if_pos hk9, if_pos hk9, if_neg ne10]
                refine out_c c_need1 ?_
                dsimp only
                unfold f_X12_fun_J78
                rw [m_fine, bs_some, if_pos hX8.fine]
                dsimp only
                rw [if_neg ne10, bs_some]
                have f64 : md_fr [64] m8 (mSI m8 64 (nI u)) := md_fr_SI (md_fr_refl _ _) (by decide) _
                have hX8' : LX B N c8 (mSI m8 64 (nI u)) w8 L8 := hX8.fr (cd_fr_refl _ [] []) f64 (by decide) (by decide) (by decide)
                have h638 : mI (mSI m8 64 (nI u)) 63 = nI dm := by
                  have := hinn8.2.2.2.2.1
                  obtain ⟨-, -, -, -, -, y, -⟩ := this
                  exact y.trans h63
                have h64o : mI m8 64 = nI (mN m 64) := by
                  rw [md_frI fm8 (by decide), md_frI hpf7.2.1 (by decide), md_frI fm6 (by decide), md_frI a4 (by decide), md_frI f4 (by decide), md_frI fm3 (by decide), md_frI fm2 (by decide)]
                  exact hnow.2.2.2.2.1
                have c302 : cI c8 302 u = 0 := by
                  rw [cd_frI fc8 (by decide) (by decide), cd_frI hpf7.1 (by decide) (by decide), cd_frI fc6 (by decide) (by decide), cd_frI a3 (by decide) (by decide), cd_frI fcp (by decide) (by decide), x2]
                have crL : rL c8 (17 + 3 * u) = [] := by
                  rw [rL_fr fc8 (by simp), rL_fr hpf7.1 (by simp), rL_fr fc6 (by simp), rL_fr a3 (by simp), rL_fr fcp (by simp), x1]
                refine out_seq (hx c0 m0 c8 (mSI m8 64 (nI u)) b8 w8 L8 (u :: O) mc (k + 6 + 15) kl hc8.here (hm8.fr f64 (by decide)) hX8' hk9 (hinn8.1.debt (by omega) (by omega) (Nat.le_refl _)) h638 hkl) ?_ ?_ ?_
                · intro v9 c9 b9 x9' m9 hc9 hm9 hE9
                  dsimp only
                  have hinn8' : INN c c8 m (mSI m8 64 (nI u)) O mc (k + 6 + 15) kl i u 9 (nI u) lc0 lc0 lc0 [] [] [] [] := hinn8
                  obtain ⟨hinn9, ⟨f, r, es, l1', ns', rfl, hr, hG, hl9, hnb, hrL9, hcov9⟩, hkp, hcv9, w9, L9, hX9, hlen⟩ := hinn8'.read hs hE9 (by omega) c302 crL (((((hbn.cv.fr a4 (by decide) (by decide) (by decide)).fr fm6 (by decide) (by decide) (by decide)).fr hpf7.2.1 (by decide) (by decide) (by decide)).fr fm8 (by decide) (by decide) (by decide)).fr f64 (by decide) (by decide) (by decide))
                  have hcut := hinn9.cut hs.nv.2.2.2.2.2.2.2.2.2.2.2.1
                  have q9 := hinn9.1.nv
                  have fcc : cd_fr [134] [] c9 (cSI c9 134 0 (nI (mN m 56))) := cd_fr_SI (cd_fr_refl _ _ _) (by decide) (by decide) _ _
                  have fmc : md_fr [56] m9 (mSI m9 56 (nI (mN m 56))) := md_fr_SI (md_fr_refl _ _) (by decide) _
                  have hG' : Gen (mSI m9 56 (nI (mN m 56))) u f r 0 l1' es ns' ∧ (∃ g, GW (mSI m9 56 (nI (mN m 56))) g r 149 24) ∧ mN (mSI m9 56 (nI (mN m 56))) 63 < 24 := by
                    obtain ⟨hGa, ⟨gw, hgw⟩, h24⟩ := hG
                    exact ⟨hGa.to (KP.fr fmc (by decide)) q9.2.1 (by omega) hnb.2.2.1 (TK.of (ME.of fmc (by decide)) r ns'), ⟨gw, Gen.gw hGa hnb.2.2.1 (TK.of (ME.of fmc (by decide)) r ns') hgw⟩, by rw [mN_fr fmc (by decide)]; exact h24⟩
                  have hu8 : u < mN (mSI m8 64 (nI u)) 35 := by
                    have := hinn8.1.now.1
                    rw [hinn8.2.1.1] at this
                    exact this
                  obtain ⟨c10, b10, g1, g2, g3, g4, g5, g6, g7, g8⟩ := INN.shut (n := n) (k := k + 6) hC hn hcut hs (mN_of mI_SIe (by have := hs.nv.2.2.2.2.2.2.2.2.2.2.2.1; omega)) hr hG' (by rw [cI_SIo (by decide)]; exact hl9) (hnb.gr (by rw [mN_fr fmc (by decide)]; exact Nat.le_refl _) (by rw [mN_fr fmc (by decide)]; exact Nat.le_refl _)) hu8 (by rw [rL_SI (by decide)]; exact hrL9) (hcv9.fr fmc (by decide) (by decide) (by decide)) (fun j hj h => hcov9 j (by rw [mN_fr fmc (by decide)] at hj; exact hj) h) (hc9.here.fr fcc (by decide)) (hX9.fr fcc fmc (by decide) (by decide) (by decide))
                  have h36u : mA m9 36 u ≠ 4 := fun z => by
                    have z2 := (hkp.2.2.2.2.2.2.2.2.1.2 u hu8).1.mp z
                    rw [mA_SI, md_frA fm8 (by decide), md_frA hpf7.2.1 (by decide), M63 36 (by decide), x4] at z2
                    exact absurd z2 (by decide)
                  rw [bs_some, h134]
                  refine out_em g1 g2 ?_
                  dsimp only
                  rw [m_st41 hu60, bs_some, bs_some, bs_some, h64o, h56m5, ms_5664]
                  have eqm : mSI (mSI (mSA m9 41 u (nI r)) 56 (nI (mN m 56))) 64 (nI (mN m 64)) = mSI (mSA (mSI m9 56 (nI (mN m 56))) 41 u (nI r)) 64 (nI (mN m 64)) := rfl
                  rw [eqm]
                  refine ⟨nI i, _, rfl, ?_, Or.inl ⟨0, c10, b10, rfl, g3, ?_⟩⟩
                  · exact (hm9.fr fmc (by decide)).fr (F := [41, 64]) (md_fr_SI (md_fr_SA (md_fr_refl _ _) (by decide) _ _) (by decide) _) (by decide)
                  · refine (g5.debt (Nat.le_refl _) (by omega) (show k ≤ k + 6 by omega)).finU (Or.inl ⟨rfl, rfl, by rw [mA_SI, mA_SAo (by decide), mA_SI]; exact h36u⟩) g4 ?_ g6 (by omega) (by rw [hum]; exact hs.fresh) (fun q hq => absurd hq (by simp)) g7 g8 (by simp)
                    rw [hL5, hL6]; rw [hL8] at hl7; simp at hl7 ⊢; omega
                · rintro v9 c9 b9 pl hc9 hbw ⟨hcs, hle⟩
                  dsimp only
                  rw [bs_some]
                  have fcc : cd_fr [134] [] c9 (cSI c9 134 0 (cI c2 134 0)) := cd_fr_SI (cd_fr_refl _ _ _) (by decide) (by decide) _ _
                  have e1 : cN (cSI c9 134 0 (cI c2 134 0)) 66 = cN c9 66 := by rw [cN, cN, cI_SIo (by decide)]
                  have hcn : u < cN c9 66 := by
                    have e2 := hinn8.1.nv.2.2.2.2.2.1
                    have e3 := hinn8.1.now.1
                    rw [hinn8.2.1.1] at e3
                    omega
                  obtain ⟨c10, b10, g1, g2, g3, g4, g5, g6⟩ := cs_shut (n := n) (u := u) (what := 9) (k := k + 6) hC hn (hcs.to (CE.of fcc (by decide)) (fun i _ => cd_frz fcc (by simp))) (hc9.fr fcc (by decide)) (by rw [e1]; exact hcn)
                  refine op_em g1 g2 ?_
                  refine Or.inl ⟨0, c10, b10, rfl, g3, g6 pl ⟨by rw [cI_SIo (by decide)]; exact hbw.1, by rw [cI_SIo (by decide)]; exact hbw.2⟩, g4.less (by omega), ?_⟩
                  rw [g5, e1]; omega
                · intro x9' m9 k2 pl h1 h2
                  dsimp only
                  rw [m_st41 hu60, bs_some, bs_some, bs_some]
                  have ff : md_fr [41, 56, 64] m9 (mSI (mSI (mSA m9 41 u x9') 64 (mI m8 64)) 56 (mI m5 56)) := md_fr_SI (md_fr_SI (md_fr_SA (md_fr_refl _ _) (by decide) _ _) (by decide) _) (by decide) _
                  exact ⟨nI i, _, rfl, h1.fr ff (by decide), h2.fr ff (by decide) (by decide)⟩
              · rw [if_neg hk9, if_neg hk9, if_pos rfl]
                obtain ⟨c', b', e1, e2⟩ := c_need0 (n := n) hC hc8.here.1 hX8.k.2.1
                obtain ⟨m', f1, f2, f3⟩ := m_misfit (n := n) hX8
                refine out_thr e1 e2 hc8.here (ble.refl _) (x := nI i) (m' := m') ?_ (hm8.fr f2 (by decide)) f3
                rw [f1, bs_some]
                exact nfJ m' 1 (wF w8) _ _ _ f3
            · rintro v8 c8 b8 pl hc8 hbw ⟨rfl, fc8⟩
              dsimp only
              rw [hbw.1, if_neg (by decide)]
              unfold f_X4_readFun_J61
              exact op_seq (Pn1 := fun _ _ => False) (need_bw hC hc8.here hbw) (fun _ _ _ _ _ y => y.elim)
          · rintro v7 c7 b7 pl hc7 hbw -
            dsimp only
            exact op_seq (Pn1 := fun _ _ => False) (pass_bw hC hc7.here hbw (by decide)) (fun _ _ _ _ _ y => y.elim)
          · intro x7' z k2 pl h1 h2
            exact ⟨_, _, nf1 z k2 pl _ _ _ h2, h1, h2⟩
        · rintro v6 c6 b6 pl hc6 hbw ⟨rfl, fc6⟩
          dsimp only
          refine op_seq (Pn1 := fun _ _ => False) ?_ (fun _ _ _ _ _ y => y.elim)
          unfold f_X4_readParameters f_X4_readParameters_J22
          rw [hbw.1, if_neg (by decide)]
          obtain ⟨n', hn'⟩ : ∃ q, n = q + 1 := ⟨n - 1, by omega⟩
          obtain ⟨c', b', e1, e2⟩ := c_needName0 (n := n) hC hc6.here.1 hbw.2 (by rw [hbw.1]; decide)
          have hL1 : f_X4_readParameters_L25 n (cI c6 134 0) n c6 b6 1 0 = some (Sum.inl (Sum.inr (c', b'))) := by
            have : f_X4_readParameters_L25 n (cI c6 134 0) (n' + 1) c6 b6 1 0 = some (Sum.inl (Sum.inr (c', b'))) := by
              rw [u_X4_readParameters_L25, if_neg ne10, if_neg (by decide), e1, bs_some]
              exact ckx_inl (bd := fun (r : TL) => r.2.1) rfl (ble.refl _)
            rw [← hn'] at this; exact this
          refine Or.inr ⟨c', b', ?_, e2.tx hc6.here⟩
          refine ck_inr ?_ ⟨e2.2.2.2.1, e2.2.2.2.2.1⟩
          rw [hL1, bs_some]
          exact ck_inr rfl (ble.refl _)
        · intro x6' z k2 pl h1 h2
          dsimp only
          rw [nf_isFine h2, bs_some]
          dsimp only
          rw [if_pos rfl, bs_some]
          exact ⟨_, _, nf1 z k2 pl _ _ _ h2, h1, h2⟩
      · refine ⟨nI i, m5, ?_, hm5, Or.inr (Or.inl ⟨wF w5, ?_, hnf⟩)⟩
        · rw [nfP _ 1 (wF w5) _ _ hnf, bs_some]
          exact nf1 m5 1 (wF w5) _ _ _ hnf
        · exact op_seq (Pn1 := fun _ _ => False) (pass_bw hC hc5 hbw (by decide)) (fun _ _ _ _ _ y => y.elim)
theorem nf_fun {n : Nat} {rm : md_R} : NFX (fun m => f_X12_fun n rm m) := by
  intro m0 m k pl hm h
  dsimp only
  obtain ⟨m', e1, e2, e3⟩ := nf_part (n := n) h
  unfold f_X12_fun
  rw [e1, bs_some]
  exact ⟨0, m', rfl, hm.fr e2 (by decide), e3⟩
theorem nf_priv {n : Nat} {rm : md_R} : NFX (fun m => f_X12_priv n rm m) := by
  intro m0 m k pl hm h
  dsimp only
  obtain ⟨m', e1, e2, e3⟩ := nf_part (n := n) h
  unfold f_X12_priv
  rw [e1, bs_some]
  exact ⟨0, m', rfl, hm.fr e2 (by decide), e3⟩
theorem nf_under {n : Nat} {rm : md_R} : NFX (fun m => f_X12_under n rm m) := by
  intro m0 m k pl hm h
  dsimp only
  obtain ⟨m', e1, e2, e3⟩ := nf_part (n := n) h
  unfold f_X12_under
  rw [e1, bs_some]
  exact ⟨0, m', rfl, hm.fr e2 (by decide), e3⟩
