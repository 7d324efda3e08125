/-! try in step -/
theorem sg58 : ∀ k, k ∈ vks → ((mWd k = 5 ∧ mVl k = 58) ↔ k = 58) := by decide
theorem ky9 : ∀ k, k ∈ vks → ((mWd k = 2 ∧ mVl k = 9) ↔ k = 219) := by decide
theorem try_ok {n : Nat} {C : Nat × Nat} {B : Nat → Int32} {N : Nat} {rc : cd_R} {rm : md_R} {a : Int32} {dm kd : Nat} (hC : BC C) (hn : 5000 ≤ n) (hkd : kd ≤ 30) (hx : EX C B N (fun c b => rc 0 0 (a + 1) 0 c b) (fun m => rm 0 0 0 0 m) dm (kd + 1) 6) (hnx : NFX (fun m => rm 0 0 0 0 m)) (hbx : BWX C (fun c b => rc 0 0 (a + 1) 0 c b)) (hB : BND C B N (fun nm key c b => rc 2 nm key a c b) (fun v i m => rm 7 v i 0 m) dm kd) (hnB : ∀ v i, NFX (fun m => rm 7 v i 0 m)) (hbB : BWB C (fun nm key c b => rc 2 nm key a c b)) : EXw C B N (fun k => k = 218) (fun c b => f_X4_readTry n rc c b a) (fun m => f_X12_tryE n rm m) dm kd 3 := by
  intro c0 m0 c m b w L O mc k kl hc hm h hkw hs h63 hkl
  dsimp only at hkw ⊢
  unfold f_X4_readTry f_X12_tryE
  refine out_ck ?_
  rcases part_st (n := n) hC hc hm h hs with ⟨c', b', m', e1, e2, e3, e4, e5⟩ | ⟨c2, m2, e1, e2, hc2, hm2, h2, hs2, hg2, hp2, hb2, fc2, fm2⟩
  · refine out_thr e1 e3 hc (ble.refl _) (x := 0) (m' := m') ?_ e4 e5
    rw [e2, bs_some]
    rfl
  · refine out_c e1 ?_
    dsimp only
    rw [e2, bs_some]
    dsimp only
    rw [if_neg ne10]
    obtain ⟨i, lc0, hi, n1, hbn⟩ := BN.new (n := n) (t := 19) (x := 0) (y := 0) hs hs2 hg2 hp2 hb2 (cd_frI fc2 (by decide) (by decide) _) (rL_fr fc2 (by simp)) (mN_fr fm2 (by decide))
    obtain ⟨m3, hm3⟩ : ∃ m3, m3 = ndm m2 i 19 0 0 := ⟨_, rfl⟩
    rw [← hm3] at n1 hbn
    have f3 : md_fr [65, 66, 67, 68, 69, 70, 71, 72] m2 m3 := by rw [hm3]; exact ndm_fr _ _ _ _ _
    have hnow := hbn.1.now
    rw [hbn.2.1.n64] at hnow
    obtain ⟨w1, w2, w3, w4, w5, w6, w7, w8⟩ := hnow
    have hl0 : cI c2 302 (mN m 64) = nI lc0 := hbn.2.2.2.2.2.2.2.2.2.1
    have hvb := hbn.1.vb
    have hvb0 := hs.vb
    obtain ⟨hbn4', hlc⟩ := hbn.lab2 (by omega)
    obtain ⟨c4, hc4⟩ : ∃ c4, c4 = cSI (cSI c2 302 (mN m 64) (nI (lc0 + 1))) 302 (mN m 64) (nI (lc0 + 2)) := ⟨_, rfl⟩
    rw [← hc4] at hbn4'
    have hs' : ST c m O (mc + 32) k (kl + 3) := hs.shift (by omega) (by omega) (by omega) (by omega)
    have hbn4 : BN c c4 m m3 O (mc + 32) (k + 6) (kl + 2) i 19 0 0 lc0 (lc0 + 2) (lc0 + 2) [] [] [] [] := ⟨hbn4'.1.shift (Nat.le_refl _) (by omega) (by omega) (by omega), hbn4'.2⟩
    have fc4 : cd_fr [302] [] c2 c4 := by rw [hc4]; exact cd_fr_SI (cd_fr_SI (cd_fr_refl _ _ _) (by decide) (by decide) _ _) (by decide) (by decide) _ _
    have w4' : cd_dp (cSI c2 302 (mN m 64) (nI (lc0 + 1))) 136 0 = some (mN m 64) := w4
    rw [w4, bs_some, c_lab hl0, bs_some]
    dsimp only
    rw [w4', bs_some, c_lab cI_SIe, bs_some]
    dsimp only
    rw [show lc0 + 1 + 1 = lc0 + 2 from rfl, ← hc4, n1, bs_some]
    dsimp only
    have hX4 : LX B N c4 m3 w L := h2.fr fc4 f3 (by decide) (by decide) (by decide)
    obtain ⟨b5, d1, d2, d3, d4, d5, d6⟩ := BN.emit (n := n) (k := k + 5) (e1 := 19) (e2 := nI lc0) (e3 := 0) hC (hc2.fr fc4 (by decide)) hbn4 hX4
    rw [d1, bs_some]
    refine out_em d2 d3 ?_
    dsimp only
    obtain ⟨c5, m5, a1, a2, a3, a4, ⟨w', L', hL', a5⟩, a6⟩ := adv_ok (n := n) hn d6 (by rw [hkw]; decide)
    have hc5 : CI C c0 b5 c5 b5 := d4.fr a3 (by decide)
    have hm5 : MI m0 m5 := (hm2.fr f3 (by decide)).fr a4 (by decide)
    rw [a1, bs_some, a2, bs_some]
    dsimp only
    -- the model behind a fault
    have nf1 : ∀ (z : md_S) (k2 pl : Nat) (v : Int32), MI m0 z → NF z k2 pl → ∃ x2 z2, (Option.bind (rm 7 v (nI i) 0 z) fun p14 => some (nI i, p14.2)) = some (x2, z2) ∧ MI m0 z2 ∧ NF z2 k2 pl := by
      intro z k2 pl v h1 h2
      obtain ⟨x, z1, g1, g2, g3⟩ := hnB v (nI i) m0 z k2 pl h1 h2
      rw [show rm 7 v (nI i) 0 z = _ from g1, bs_some]
      exact ⟨_, _, rfl, g2, g3⟩
    have nf4 : ∀ (z : md_S) (k2 pl : Nat), MI m0 z → NF z k2 pl → ∃ x2 z2, (Option.bind (mstA z 68 (nI i) (mI z 73)) fun σ12 => Option.bind (f_X12_sign n σ12 (58 : Int32)) fun p13 => Option.bind (rm 7 (mI z 73) (nI i) 0 p13.2) fun p14 => some (nI i, p14.2)) = some (x2, z2) ∧ MI m0 z2 ∧ NF z2 k2 pl := by
      intro z k2 pl h1 h2
      have ff : md_fr [68] z (mSA z 68 i (mI z 73)) := md_fr_SA (md_fr_refl _ _) (by decide) _ _
      have h3 : NF (mSA z 68 i (mI z 73)) k2 pl := h2.fr ff (by decide) (by decide)
      rw [m_st68 hi, bs_some, nf_sign h3, bs_some]
      exact nf1 _ k2 pl _ (h1.fr ff (by decide)) h3
    rcases a5 with hX5 | ⟨hbw, hnf⟩
    · have hbn5 := d5.adv hs' a3 a4 (a6 hX5.fine)
      have cn0 : cN c 66 = mN m 35 := hs.nv.2.2.2.2.2.1
      refine out_seq (hx c0 m0 c5 m5 b5 w' L' O (mc + 32) (k + 5) (kl + 1) hc5 hm5 hX5 hbn5.1 (hbn5.2.1.n63.trans h63) (by omega)) ?_ ?_ ?_
      · intro v6 c6 b6 x6 m6 hc6 hm6 hE6
        dsimp only
        obtain ⟨r1, es1, l1, nn1, m7, g1, hbn7, g3, hkp7, w7', L7, hX7, hl7⟩ := hbn5.read hn hs' hE6 (by omega) (fun _ => by omega)
        obtain ⟨b7, p1, p2, p3, p4, p5, p6⟩ := BN.emit (n := n) (k := k + 4) (e1 := 20) (e2 := 0) (e3 := 0) hC hc6 hbn7 hX7
        obtain ⟨b8, p1', p2', p3', p4', p5', p6'⟩ := BN.emit (n := n) (k := k + 3) (e1 := 17) (e2 := nI (lc0 + 1)) (e3 := 0) hC p4 p5 p6
        obtain ⟨b9, p1'', p2'', p3'', p4'', p5'', p6''⟩ := BN.emit (n := n) (k := k + 2) (e1 := 100) (e2 := nI lc0) (e3 := 0) hC p4' p5' p6'
        rw [p1, bs_some]
        refine out_em p2 p3 ?_
        dsimp only
        rw [p1', bs_some]
        refine out_em p2' p3' ?_
        dsimp only
        rw [p1'', bs_some]
        refine out_em p2'' p3'' ?_
        dsimp only
        rw [g1, bs_some]
        dsimp only
        have hm7 : MI m0 m7 := hm6.fr g3 (by decide)
        obtain ⟨c9, hc9⟩ : ∃ z, z = em (em (em c6 (mN m 64) 20 0 0) (mN m 64) 17 (nI (lc0 + 1)) 0) (mN m 64) 100 (nI lc0) 0 := ⟨_, rfl⟩
        rw [← hc9] at p4'' p5'' p6'' ⊢
        rw [m_isKey p6''.fine p6''.mw ky9, bs_some]
        dsimp only
        by_cases hk9 : wK w7' = 219
        · rw [if_pos hk9, if_neg ne10]
          have n64 := p5''.2.1.n64
          obtain ⟨u1, u2, u3, u4, u5, u6, u7, u8⟩ := p5''.1.now
          obtain ⟨q, y1, y2, y3, y4, y5⟩ := p5''.1.letq
          obtain ⟨q62, q35, q50, -⟩ := p5''.1.nv
          rw [u5, m_ld46 u2, bs_some, bs_some, m_st46 u2, bs_some, y1, nI_1]
          obtain ⟨ms, hms⟩ : ∃ z, z = mSA m7 46 (mN m7 64) (nI (q + 1)) := ⟨_, rfl⟩
          have fms : md_fr [46] m7 ms := by rw [hms]; exact md_fr_SA (md_fr_refl _ _) (by decide) _ _
          rw [← hms]
          have p7s : P7 (N / 2048 + 7) ms (wF w7') := fun j hj => by
            have hp := p6''.p7
            rw [mN_fr fms (by decide)] at hj
            have hj' := hp j hj
            by_cases hjn : j = mN m7 64
            · rw [hjn] at hj' ⊢
              rw [aN_of y1 (by omega)] at hj'
              rw [aN_of (show mA ms 46 (mN m7 64) = nI (q + 1) by rw [hms, mA_SAe]) (by omega)]
              omega
            · rw [aN, hms, mA_SAi hjn]
              have : aN m7 46 j = (mA m7 46 j).toNatClampNeg := rfl
              omega
          have hXs : LX B (N + 2048 * 7) c9 ms w7' L7 := (p6''.z (N' := N + 2048 * 7) (by omega) (p6''.p7.le (by omega))).frq (cd_fr_refl _ [] []) fms (by decide) (by decide) (by decide) (p6''.pc.fr fms (by decide)) (p7s.le (by omega))
          obtain ⟨c10, mA', a1', a2', a3', a4', ⟨w10, L10, hL10, a5'⟩, a6'⟩ := adv_ok (n := n) hn hXs (by rw [hk9]; decide)
          refine out_c (c_pass1 (p6''.k.1.trans hk9) a1') ?_
          dsimp only
          have hc10 : CI C c0 b9 c10 b9 := p4''.fr a3' (by decide)
          have u4' : cd_dp c10 136 0 = some (mN m7 64) := by
            have : cP c10 136 0 = mN m7 64 + 1 := by rw [cd_frP a3' (by decide) (by decide)]; exact u3
            exact c_now this (by omega)
          rw [u4', bs_some, c_addOwn, bs_some, a2', bs_some]
          dsimp only
          obtain ⟨cA, hcA'⟩ : ∃ z, z = cSI c10 298 (mN m7 64) (cI c10 298 (mN m7 64) + 1) := ⟨_, rfl⟩
          have fcs : cd_fr [298] [] c10 cA := by rw [hcA']; exact cd_fr_SI (cd_fr_refl _ _ _) (by decide) (by decide) _ _
          rw [← hcA']
          have e288 : cI c10 288 (mN m7 64) = nI (mN m7 64) := by rw [cd_frI a3' (by decide) (by decide)]; exact y5
          have e298 : cI c10 298 (mN m7 64) = nI (ub m7 (mN m7 64) + q) := by rw [cd_frI a3' (by decide) (by decide)]; exact y3
          rw [e288, e298, key_eq]
          have hcA : CI C c0 b9 cA b9 := hc10.fr fcs (by decide)
          have hmA : MI m0 mA' := (hm7.fr fms (by decide)).fr a4' (by decide)
          rcases a5' with hXA' | ⟨hbw, hnf⟩
          · have hXA : LX B (N + 2048 * 7) cA mA' w10 L10 := hXA'.fr fcs (md_fr_refl _ []) (by decide) (by decide) (by decide)
            have fcA : cd_fr [298, 327, 328, 329, 330] [] c9 cA := cd_fr_tr a3' fcs (fun k hk => ⟨nin (by decide) hk, nin (by decide) hk⟩) (fun k hk => ⟨hk, hk⟩)
            have fmA : md_fr [6, 7, 8, 9, 10, 11, 12, 13, 14, 15, 46] m7 mA' := md_fr_tr fms a4' (fun k hk => ⟨nin (by decide) hk, nin (by decide) hk⟩)
            have hvb7 := p5''.1.vb
            rcases name_ok (n := n) (mc2 := mc) (kl2 := kl + 1) (q := q) hC hn hcA hmA hXA hs p5'' fcA fmA (by rw [a6' hXA'.fine, md_frI fms (by decide)]) y2 y3 (by rw [hcA', cI_SIe, cd_frI a3' (by decide) (by decide)]) (fun j hj => by rw [hcA', cI_SIi hj, cd_frI a3' (by decide) (by decide)]) (by rw [md_frA a4' (by decide), hms, mA_SAe]) (fun j hj => by rw [md_frA a4' (by decide), hms, mA_SAi hj]) (Nat.le_refl _) (by omega) (by omega) (by omega) with ⟨c', b', m', t1, t2, t3, t4, t5⟩ | ⟨t0, t01, c', b', m', t1, t2, t3, t4, t5⟩ | ⟨t0, t01, t02, cB, mB, v, w2', L2, t1, t2, t3, t4, t5, t6, t7⟩
            · obtain ⟨x3, z3, g1, g2, g3⟩ := nf4 m' 1 (wF w10) t4 t5
              refine out_thr t1 t2 hcA (ble.refl _) (x := x3) (m' := z3) ?_ g2 g3
              rw [t3, bs_some]
              exact g1
            · obtain ⟨x3, z3, g1, g2, g3⟩ := nf4 m' 4 (wF w10) t4 t5
              refine out_c t0 ?_
              dsimp only
              rw [if_pos t01]
              unfold f_X4_readTry_J113
              refine out_thr t1 t2 hcA (ble.refl _) (x := x3) (m' := z3) ?_ g2 g3
              rw [t3, bs_some]
              exact g1
            · refine out_c t0 ?_
              dsimp only
              rw [if_neg t01]
              unfold f_X4_readTry_J113
              refine out_c c_room1 ?_
              dsimp only
              rw [t1, bs_some, t2, bs_some, t02]
              dsimp only
              rcases t7 with ⟨hbw, hnf⟩ | ⟨hXC, hbC, hvC, h51C, hkvC, hnrC, h56C, h46C, h35C⟩
              · obtain ⟨x3, z3, g1, g2, g3⟩ := nf4 mB 1 (wF w2') t6 hnf
                exact ⟨x3, z3, g1, g2, Or.inr (Or.inl ⟨wF w2', op_seq (Pn1 := fun _ _ => False) (pass_bw hC t5 hbw (by decide)) (fun _ _ _ _ _ y => y.elim), g3⟩)⟩
              · rw [t3, m_st68 hi, bs_some]
                have ffB : md_fr [68] mB (mSA mB 68 i (nI v)) := md_fr_SA (md_fr_refl _ _) (by decide) _ _
                refine out_seq (pass_out (s := 58) (sk := 58) hC hn t5 (t6.fr ffB (by decide)) hXC sg58 (by decide)) ?_ ?_ (fun _ z k2 pl h1 h2 => nf1 z k2 pl (nI v) h1 h2)
                · rintro v12 c12 b12 x12 m12 hc12 hm12 ⟨rfl, hk12, ⟨w12, L12, hL12, hX12⟩, fc12, fm12, s12⟩
                  dsimp only
                  have hbn12 := hbC.adv hs fc12 fm12 s12
                  have p712 : P7 (N / 2048 + 7) m12 (wF w7') := fun j hj => by
                    rw [mN_fr fm12 (by decide), h35C, mN_fr a4' (by decide)] at hj
                    rw [aN, md_frA fm12 (by decide), h46C, md_frA a4' (by decide)]
                    exact p7s j hj
                  have hX12 : LX B N c12 m12 w12 L12 := hX12.z (by omega) (p712.le (by
                    have hh := p6''
                    rw [hL10, t4, hL12] at hh
                    have := hh.nxt3.2 hk9
                    omega))
                  have kp12 : KP (mSA mB 68 i (nI v)) m12 := KP.fr fm12 (by decide)
                  have hkey : kv m12 v = nI (mN m 64 * 1024 + (ub m7 (mN m7 64) + q)) := (kp12.1 v hvC).trans hkvC
                  refine out_seq (Ok1 := fun _ c' _ _ m' => ∃ r es l2 n2, BN c c' m m' O mc (k + 1) kl i 19 (nI v) 0 lc0 (lc0 + 2) l2 ([] ++ [r1] ++ [r]) ([] ++ [es1] ++ [es]) ([] ++ nn1 ++ n2) ([] ++ [(19, nI lc0, 0)] ++ es1 ++ [(20, 0, 0)] ++ [(17, nI (lc0 + 1), 0)] ++ [(100, nI lc0, 0)] ++ [(3, nI (mN m 64 * 1024 + (ub m7 (mN m7 64) + q)), 0)] ++ es) ∧ KP m12 m' ∧ ∃ w' L', LX B N c' m' w' L' ∧ L'.length < L12.length) (Pn1 := fun c' _ => CS c' (k + 1) ∧ cN c12 66 ≤ cN c' 66) ?_ ?_ ?_ ?_
                  · rw [n64]
                    rw [n64] at hkey
                    exact hB c0 m0 c c12 m m12 b12 w12 L12 O mc (k + 1) kl i v k (kl + 1) 19 (nI v) 0 _ (wX w10) lc0 (lc0 + 2) l1 _ _ _ _ hc12.here hm12 hX12 hs hbn12 (by rw [mN_fr fm12 (by decide)]; exact hvC) (by rw [md_frA fm12 (by decide)]; exact h51C) hkey (by rw [md_frL fm12 (by decide)]; exact hnrC) (by rw [mN_fr fm12 (by decide)]; exact h56C) (hbn12.2.1.n63.trans h63) hkl
                  · rintro v13 c13 b13 x13 m13 hc13 hm13 ⟨r2, es2, l2, nn2, hbn13, hkp13, w13, L13, hX13, hl13⟩
                    dsimp only
                    obtain ⟨b15, s1, s2, s3, s4, s5, s6⟩ := BN.emit (n := n) (k := k) (e1 := 100) (e2 := nI (lc0 + 1)) (e3 := 0) hC hc13 hbn13 hX13
                    rw [s1, bs_some]
                    refine out_em s2 s3 ?_
                    refine ⟨nI i, m13, rfl, hm13, Or.inl ⟨0, _, b15, rfl, s4, ?_⟩⟩
                    have h66 := s5.2.2.2.1
                    have h68 := s5.2.2.2.2.1
                    have h50 : v < mN m13 50 := by
                      have := kp12.2.2.1
                      have := hkp13.2.2.1
                      omega
                    refine s5.fin s6 ?_ rfl ?_ ?_ ?_
                    · rw [hL']; rw [hL10, t4, hL12] at hl7; simp at hl7 ⊢; omega
                    · unfold um; rw [h66, if_neg (by decide)]
                    · exact Or.inr (Or.inr (Or.inr (Or.inr (Or.inr (Or.inr (Or.inr (Or.inr (Or.inr (Or.inr (Or.inr (Or.inl ⟨Or.inr h66, rfl, ⟨v, h68, h50, by rw [hkp13.2.2.2.2.2.2.2.1.2 v (by have := kp12.2.2.1; omega), aN_of (show mA m12 51 v = nI (mN m 64) by rw [md_frA fm12 (by decide)]; exact h51C) (by have := hs.q64.2; omega), aN_of s5.2.2.1.2.1 (by have := hs.q64.2; omega)]⟩, s5.2.2.2.2.2.1⟩)))))))))))
                    · unfold cmb
                      rw [h66, if_neg (by decide), if_neg (by decide), if_pos rfl, aN_of h68 (by have := hbn13.1.nv.2.2.1; omega), hkp13.1 v (by have := kp12.2.2.1; omega), hkey]
                      simp
                  · rintro v13 c13 b13 pl hc13 hbw ⟨hcs13, hle⟩
                    dsimp only
                    obtain ⟨u, b14, u1, u2, u3, u4, u5, u6, u7⟩ := CS.em (n := n) (k := k) (x := 100) (y := nI (lc0 + 1)) (z := 0) hC hcs13 hc13
                    rw [u2, bs_some]
                    refine op_em u3 u4 ?_
                    refine Or.inl ⟨0, _, b14, rfl, u5, hbw.em, u6, ?_⟩
                    have := hbn12.1.nv.2.2.2.2.2.1
                    have := hbn12.2.1.n35
                    rw [u7]; omega
                  · intro x13 z k2 pl h1 h2
                    exact ⟨nI i, z, rfl, h1, h2⟩
                · rintro v12 c12 b12 pl hc12 hbw ⟨rfl, fc12⟩
                  dsimp only
                  exact op_seq (Pn1 := fun _ _ => False) (hbB _ _ c0 c12 b12 pl (k + 1) (mN (mSA mB 68 i (nI v)) 56) hc12.here hbw (CS.adv hbC.1.1 fc12).1 (by rw [cd_frI fc12 (by decide) (by decide)]; exact hbC.1.nv.2.2.2.2.2.2.2.2.2.2.2.2.2) hbC.1.nv.2.2.2.2.2.2.2.2.2.2.2.1) (fun _ _ _ _ _ y => y.elim)
          · obtain ⟨c', b', e1, e2⟩ := c_needName0 (n := n) (pl := wF w10) hC hcA.1 (by rw [cd_frI fcs (by decide) (by decide)]; exact hbw.2) (by rw [cd_frI fcs (by decide) (by decide), hbw.1]; decide)
            obtain ⟨x3, z3, g1, g2, g3⟩ := nf4 mA' 1 (wF w10) hmA hnf
            refine ⟨x3, z3, ?_, g2, Or.inr (Or.inl ⟨wF w10, op_thr e1 e2 hcA (ble.refl _), g3⟩)⟩
            rw [nf_binds hnf, bs_some]
            exact g1
        · rw [if_neg hk9, if_pos rfl]
          obtain ⟨c', b', e1, e2⟩ := c_pass0 (n := n) (k := 219) hC p4''.1 p6''.k.2.1 (by rw [p6''.k.1]; exact hk9)
          obtain ⟨m', f1, f2, f3⟩ := m_misfit (n := n) p6''
          refine out_thr e1 e2 p4'' (ble.refl _) (x := nI i) (m' := m') ?_ (hm7.fr f2 (by decide)) f3
          unfold f_X12_key
          rw [m_isKey p6''.fine p6''.mw ky9, bs_some, if_neg hk9]
          dsimp only
          rw [if_pos rfl, m_fine, bs_some, if_pos p6''.fine]
          dsimp only
          rw [if_neg ne10, f1, bs_some, bs_some]
      · rintro v6 c6 b6 pl hc6 hbw ⟨hcs, hle⟩
        dsimp only
        obtain ⟨u, b7, u1, u2, u3, u4, u5, u6, u7⟩ := CS.em (n := n) (k := k + 4) (x := 20) (y := 0) (z := 0) hC hcs hc6
        obtain ⟨u', b8, u1', u2', u3', u4', u5', u6', u7'⟩ := CS.em (n := n) (k := k + 3) (x := 17) (y := nI (lc0 + 1)) (z := 0) hC u6 u5
        obtain ⟨u'', b9, u1'', u2'', u3'', u4'', u5'', u6'', u7''⟩ := CS.em (n := n) (k := k + 2) (x := 100) (y := nI lc0) (z := 0) hC u6' u5'
        rw [u2, bs_some]
        refine op_em u3 u4 ?_
        dsimp only
        rw [u2', bs_some]
        refine op_em u3' u4' ?_
        dsimp only
        rw [u2'', bs_some]
        refine op_em u3'' u4'' ?_
        dsimp only
        exact op_seq (Pn1 := fun _ _ => False) (pass_bw hC u5'' hbw.em.em.em (by decide)) (fun _ _ _ _ _ y => y.elim)
      · intro x z k2 pl h1 h2
        rw [nf_gets h2, bs_some]
        dsimp only
        rw [nf_isKey h2, bs_some]
        dsimp only
        rw [if_pos rfl, nf_key h2, bs_some]
        exact ⟨_, _, rfl, h1, h2⟩
    · obtain ⟨x2, q1, g1, g2, g3⟩ := hnx m0 m5 1 (wF w') hm5 hnf
      refine ⟨nI i, q1, ?_, g2, Or.inr (Or.inl ⟨wF w', ?_, g3⟩)⟩
      · rw [show rm 0 0 0 0 m5 = _ from g1, bs_some]
        dsimp only
        rw [nf_gets g3, bs_some]
        dsimp only
        rw [nf_isKey g3, bs_some]
        dsimp only
        rw [if_pos rfl, nf_key g3, bs_some]
      · exact op_seq (Pn1 := fun _ _ => False) (hbx c0 c5 b5 (wF w') hc5 hbw) (fun _ _ _ _ _ y => y.elim)
theorem nf_try {n : Nat} {rm : md_R} : NFX (fun m => f_X12_tryE n rm m) := by
  intro m0 m k pl hm h
  dsimp only
  obtain ⟨m', e1, e2, e3⟩ := nf_part (n := n) h
  unfold f_X12_tryE
  rw [e1, bs_some]
  exact ⟨0, m', rfl, hm.fr e2 (by decide), e3⟩
