/-! let in step -/
theorem sg61 : ∀ k, k ∈ vks → ((mWd k = 5 ∧ mVl k = 61) ↔ k = 61) := by decide
theorem ky4 : ∀ k, k ∈ vks → ((mWd k = 2 ∧ mVl k = 4) ↔ k = 214) := by decide
theorem key_eq {u r : Nat} : nI u * 1024 + nI r = nI (u * 1024 + r) := by
  rw [show (1024 : Int32) = nI 1024 from rfl, nI_mul, nI_add]
theorem let_ok {n : Nat} {C : Nat × Nat} {B : Nat → Int32} {N : Nat} {rc : cd_R} {rm : md_R} {a : Int32} {dm kd : Nat} (hC : BC C) (hn : 5000 ≤ n) (hkd : kd ≤ 30) (hx : EX C B (N + 2048 * 2) (fun c b => rc 0 0 (a + 1) 0 c b) (fun m => rm 0 0 0 0 m) dm (kd + 1) 6) (hnx : NFX (fun m => rm 0 0 0 0 m)) (hbx : BWX C (fun c b => rc 0 0 (a + 1) 0 c b)) (hB : BND C B N (fun nm key c b => rc 2 nm key a c b) (fun v i m => rm 7 v i 0 m) dm kd) (hnB : ∀ v i, NFX (fun m => rm 7 v i 0 m)) (hbB : BWB C (fun nm key c b => rc 2 nm key a c b)) : EXw C B N (fun k => k = 213) (fun c b => f_X4_readLet n rc c b a) (fun m => f_X12_letE n rm m) dm kd 3 := by
  intro c0 m0 c m b w L O mc k kl hc hm h hkw hs h63 hkl
  dsimp only at hkw ⊢
  unfold f_X4_readLet f_X12_letE
  refine out_ck ?_
  rcases part_st (n := n) hC hc hm h hs with ⟨c', b', m', e1, e2, e3, e4, e5⟩ | ⟨c2, m2, e1, e2, hc2, hm2, h2, hs2, hg2, hp2, hb2, fc2, fm2⟩
  · refine out_thr e1 e3 hc (ble.refl _) (x := 0) (m' := m') ?_ e4 e5
    rw [e2, bs_some]
    rfl
  · refine out_c e1 ?_
    dsimp only
    rw [e2, bs_some]
    dsimp only
    rw [if_neg ne10]
    obtain ⟨i, lc0, hi, n1, hbn⟩ := BN.new (n := n) (t := 40) (x := 0) (y := 0) hs hs2 hg2 hp2 hb2 (cd_frI fc2 (by decide) (by decide) _) (rL_fr fc2 (by simp)) (mN_fr fm2 (by decide))
    obtain ⟨m3, hm3⟩ : ∃ m3, m3 = ndm m2 i 40 0 0 := ⟨_, rfl⟩
    rw [← hm3] at n1 hbn
    have f3 : md_fr [65, 66, 67, 68, 69, 70, 71, 72] m2 m3 := by rw [hm3]; exact ndm_fr _ _ _ _ _
    have n64 := hbn.2.1.n64
    obtain ⟨w1, w2, w3, w4, w5, w6, w7, w8⟩ := hbn.1.now
    obtain ⟨q, y1, y2, y3, y4, y5⟩ := hbn.1.letq
    obtain ⟨q62, q35, q50, -⟩ := hbn.1.nv
    rw [w4, bs_some, c_addOwn, bs_some, n1, bs_some]
    dsimp only
    rw [w5, m_ld46 w2, bs_some, bs_some, m_st46 w2, bs_some, y1, nI_1]
    obtain ⟨cs, hcs⟩ : ∃ z, z = cSI c2 298 (mN m3 64) (cI c2 298 (mN m3 64) + 1) := ⟨_, rfl⟩
    obtain ⟨ms, hms⟩ : ∃ z, z = mSA m3 46 (mN m3 64) (nI (q + 1)) := ⟨_, rfl⟩
    have fcs : cd_fr [298] [] c2 cs := by rw [hcs]; exact cd_fr_SI (cd_fr_refl _ _ _) (by decide) (by decide) _ _
    have fms : md_fr [46] m3 ms := by rw [hms]; exact md_fr_SA (md_fr_refl _ _) (by decide) _ _
    rw [← hcs, ← hms]
    have h3 : LX B N c2 m3 w L := h2.fr (cd_fr_refl _ [] []) f3 (by decide) (by decide) (by decide)
    have p7s : P7 (N / 2048 + 7) ms (wF w) := fun j hj => by
      have hp := h3.p7
      rw [mN_fr fms (by decide)] at hj
      have hj' := hp j hj
      by_cases hjn : j = mN m3 64
      · rw [hjn] at hj' ⊢
        rw [aN_of y1 (by omega)] at hj'
        rw [aN_of (show mA ms 46 (mN m3 64) = nI (q + 1) by rw [hms, mA_SAe]) (by omega)]
        omega
      · rw [aN, hms, mA_SAi hjn]
        have : aN m3 46 j = (mA m3 46 j).toNatClampNeg := rfl
        omega
    have hXs : LX B (N + 2048 * 7) cs ms w L := (h3.z (N' := N + 2048 * 7) (by omega) (h3.p7.le (by omega))).frq fcs fms (by decide) (by decide) (by decide) (h3.pc.fr fms (by decide)) (p7s.le (by omega))
    obtain ⟨cA, mA', a1, a2, a3, a4, ⟨w', L', hL', a5⟩, a6⟩ := adv_ok (n := n) hn hXs (by rw [hkw]; decide)
    have hcA : CI C c0 b cA b := (hc2.fr fcs (by decide)).fr a3 (by decide)
    have hmA : MI m0 mA' := ((hm2.fr f3 (by decide)).fr fms (by decide)).fr a4 (by decide)
    rw [a1, bs_some, a2, bs_some]
    dsimp only
    -- the model behind a fault
    have nf1 : ∀ (z : md_S) (k2 pl : Nat) (v : Int32), MI m0 z → NF z k2 pl → ∃ x2 z2, (Option.bind (rm 7 v (nI i) 0 z) fun p13 => some (nI i, p13.2)) = some (x2, z2) ∧ MI m0 z2 ∧ NF z2 k2 pl := by
      intro z k2 pl v h1 h2
      obtain ⟨x, z1, g1, g2, g3⟩ := hnB v (nI i) m0 z k2 pl h1 h2
      rw [show rm 7 v (nI i) 0 z = _ from g1, bs_some]
      exact ⟨_, _, rfl, g2, g3⟩
    have nf2 : ∀ (z : md_S) (k2 pl : Nat) (x v : Int32), MI m0 z → NF z k2 pl → ∃ x2 z2, (Option.bind (f_X12_gets n z (nI i) x) fun p11 => Option.bind (f_X12_key n p11.2 (4 : Int32)) fun p12 => Option.bind (rm 7 v (nI i) 0 p12.2) fun p13 => some (nI i, p13.2)) = some (x2, z2) ∧ MI m0 z2 ∧ NF z2 k2 pl := by
      intro z k2 pl x v h1 h2
      rw [nf_gets h2, bs_some]
      dsimp only
      rw [nf_key h2, bs_some]
      exact nf1 z k2 pl v h1 h2
    have nf3 : ∀ (z : md_S) (k2 pl : Nat) (v : Int32), MI m0 z → NF z k2 pl → ∃ x2 z2, (Option.bind (rm 0 0 0 0 z) fun p10 => Option.bind (f_X12_gets n p10.2 (nI i) (p10.1)) fun p11 => Option.bind (f_X12_key n p11.2 (4 : Int32)) fun p12 => Option.bind (rm 7 v (nI i) 0 p12.2) fun p13 => some (nI i, p13.2)) = some (x2, z2) ∧ MI m0 z2 ∧ NF z2 k2 pl := by
      intro z k2 pl v h1 h2
      obtain ⟨x, z1, g1, g2, g3⟩ := hnx m0 z k2 pl h1 h2
      rw [show rm 0 0 0 0 z = _ from g1, bs_some]
      exact nf2 z1 k2 pl x v g2 g3
    have nf4 : ∀ (z : md_S) (k2 pl : Nat), MI m0 z → NF z k2 pl → ∃ x2 z2, (Option.bind (mstA z 68 (nI i) (mI z 73)) fun σ8 => Option.bind (f_X12_sign n σ8 (61 : Int32)) fun p9 => Option.bind (rm 0 0 0 0 p9.2) fun p10 => Option.bind (f_X12_gets n p10.2 (nI i) (p10.1)) fun p11 => Option.bind (f_X12_key n p11.2 (4 : Int32)) fun p12 => Option.bind (rm 7 (mI z 73) (nI i) 0 p12.2) fun p13 => some (nI i, p13.2)) = some (x2, z2) ∧ MI m0 z2 ∧ NF z2 k2 pl := by
      intro z k2 pl h1 h2
      have ff : md_fr [68] z (mSA z 68 i (mI z 73)) := md_fr_SA (md_fr_refl _ _) (by decide) _ _
      have h3 : NF (mSA z 68 i (mI z 73)) k2 pl := h2.fr ff (by decide) (by decide)
      rw [m_st68 hi, bs_some, nf_sign h3, bs_some]
      exact nf3 _ k2 pl _ (h1.fr ff (by decide)) h3
    rcases a5 with hXA | ⟨hbw, hnf⟩
    · have cn0 : cN c 66 = mN m 35 := hs.nv.2.2.2.2.2.1
      have fcA : cd_fr [298, 327, 328, 329, 330] [] c2 cA := cd_fr_tr fcs a3 (fun k hk => ⟨nin (by decide) hk, nin (by decide) hk⟩) (fun k hk => ⟨hk, hk⟩)
      have fmA : md_fr [6, 7, 8, 9, 10, 11, 12, 13, 14, 15, 46] m3 mA' := md_fr_tr fms a4 (fun k hk => ⟨nin (by decide) hk, nin (by decide) hk⟩)
      have hvb := hbn.1.vb
      rcases name_ok (n := n) (mc2 := mc) (kl2 := kl + 2) (q := q) hC hn hcA hmA hXA hs hbn fcA fmA (by rw [a6 hXA.fine, md_frI fms (by decide)]) y2 y3 (by rw [cd_frI a3 (by decide) (by decide), hcs, cI_SIe]) (fun j hj => by rw [cd_frI a3 (by decide) (by decide), hcs, cI_SIi hj]) (by rw [md_frA a4 (by decide), hms, mA_SAe]) (fun j hj => by rw [md_frA a4 (by decide), hms, mA_SAi hj]) (by omega) (by omega) rfl (by omega) with ⟨c', b', m', t1, t2, t3, t4, t5⟩ | ⟨t0, t01, c', b', m', t1, t2, t3, t4, t5⟩ | ⟨t0, t01, t02, cB, mB, v, w2', L2, t1, t2, t3, t4, t5, t6, t7⟩
      · obtain ⟨x3, z3, g1, g2, g3⟩ := nf4 m' 1 (wF w') t4 t5
        refine out_thr t1 t2 hcA (ble.refl _) (x := x3) (m' := z3) ?_ g2 g3
        rw [t3, bs_some]
        exact g1
      · obtain ⟨x3, z3, g1, g2, g3⟩ := nf4 m' 4 (wF w') t4 t5
        refine out_c t0 ?_
        dsimp only
        rw [if_pos t01]
        unfold f_X4_readLet_J38
        refine out_thr t1 t2 hcA (ble.refl _) (x := x3) (m' := z3) ?_ g2 g3
        rw [t3, bs_some]
        exact g1
      · refine out_c t0 ?_
        dsimp only
        rw [if_neg t01]
        unfold f_X4_readLet_J38
        refine out_c c_room1 ?_
        dsimp only
        rw [t1, bs_some, t2, bs_some, t02]
        dsimp only
        rcases t7 with ⟨hbw, hnf⟩ | ⟨hXC, hbC, hvC, h51C, hkvC, hnrC, h56C, h46C, h35C⟩
        · obtain ⟨x3, z3, g1, g2, g3⟩ := nf4 mB 1 (wF w2') t6 hnf
          exact ⟨x3, z3, g1, g2, Or.inr (Or.inl ⟨wF w2', op_seq (Pn1 := fun _ _ => False) (pass_bw hC t5 hbw (by decide)) (fun _ _ _ _ _ y => y.elim), g3⟩)⟩
        · rw [t3, m_st68 hi, bs_some]
          have ffB : md_fr [68] mB (mSA mB 68 i (nI v)) := md_fr_SA (md_fr_refl _ _) (by decide) _ _
          refine out_seq (pass_out (s := 61) (sk := 61) hC hn t5 (t6.fr ffB (by decide)) hXC sg61 (by decide)) ?_ ?_ (fun _ z k2 pl h1 h2 => nf3 z k2 pl (nI v) h1 h2)
          · rintro v8 c8 b8 x8 m8 hc8 hm8 ⟨rfl, hk8, ⟨w8, L8, hL8, hX8⟩, fc8, fm8, s8⟩
            dsimp only
            have hbn8 := hbC.adv hs fc8 fm8 s8
            have p78 : P7 (N / 2048 + 7) m8 (wF w) := fun j hj => by
              rw [mN_fr fm8 (by decide), h35C, mN_fr a4 (by decide)] at hj
              rw [aN, md_frA fm8 (by decide), h46C, md_frA a4 (by decide)]
              exact p7s j hj
            have hX8' : LX B (N + 2048 * 2) c8 m8 w8 L8 := hX8.z (by omega) (p78.le (by
              have hh := h3
              rw [hL', t4, hL8] at hh
              have := hh.nxt3.1 hkw
              omega))
            refine out_seq (hx c0 m0 c8 m8 b8 w8 L8 O mc (k + 6) (kl + 1) hc8.here hm8 hX8' hbn8.1 (hbn8.2.1.n63.trans h63) (by omega)) ?_ ?_ (fun x z k2 pl h1 h2 => nf2 z k2 pl x (nI v) h1 h2)
            · intro v9 c9 b9 x9 m9 hc9 hm9 hE9
              dsimp only
              obtain ⟨r1, es1, l1, nn1, m10, g1, hbn10, g3, hkp10, w10, L10, hX10, hl10⟩ := hbn8.read hn hs hE9 (by omega) (fun _ => by omega)
              rw [g1, bs_some]
              dsimp only
              refine out_seq (passK_out (s := 4) (sk := 214) hC hn hc9.here (hm9.fr g3 (by decide)) hX10 ky4 (by decide)) ?_ ?_ (fun _ z k2 pl h1 h2 => nf1 z k2 pl (nI v) h1 h2)
              · rintro v12 c12 b12 x12 m12 hc12 hm12 ⟨rfl, hk12, ⟨w12, L12, hL12, hX12⟩, fc12, fm12, s12⟩
                dsimp only
                have hbn12 := hbn10.adv hs fc12 fm12 s12
                have hX12 : LX B N c12 m12 w12 L12 := hX12.z (by omega) ((hX10.p7.fr fm12 (by decide) (by decide)).le (by
                  have hh := hX10
                  rw [hL12] at hh
                  have := hh.nxt.2.1 hk12
                  omega))
                have kp8 : KP (mSA mB 68 i (nI v)) m8 := KP.fr fm8 (by decide)
                have kp12 : KP (mSA mB 68 i (nI v)) m12 := (kp8.tr hkp10).tr (KP.fr fm12 (by decide))
                have gr12 : mA m12 51 v = nI (mN m 64) ∧ mL m12 52 v = mL (mSA mB 68 i (nI v)) 52 v ∧ mN m12 56 = mN (mSA mB 68 i (nI v)) 56 := by
                  have hgr := hE9.2.2.1
                  obtain ⟨-, -, -, ez, fz, -⟩ := hgr
                  obtain ⟨z1, z2, -⟩ := ez v (by rw [mN_fr fm8 (by decide)]; exact hvC)
                  refine ⟨?_, ?_, ?_⟩
                  · rw [md_frA fm12 (by decide), md_frA g3 (by decide), z1, md_frA fm8 (by decide), h51C]
                  · rw [md_frL fm12 (by decide), md_frL g3 (by decide), z2, md_frL fm8 (by decide)]
                  · rw [mN_fr fm12 (by decide), mN_fr g3 (by decide), mN, fz, md_frI fm8 (by decide)]; rfl
                have hkey : kv m12 v = nI (mN m 64 * 1024 + (ub m3 (mN m3 64) + q)) := (kp12.1 v hvC).trans hkvC
                refine out_seq (Ok1 := fun _ c' _ _ m' => ∃ r es l2 n2, BN c c' m m' O mc (k + 5) kl i 40 (nI v) 0 lc0 lc0 l2 ([] ++ [r1] ++ [r]) ([] ++ [es1] ++ [es]) ([] ++ nn1 ++ n2) ([] ++ es1 ++ [(3, nI (mN m 64 * 1024 + (ub m3 (mN m3 64) + q)), 0)] ++ es) ∧ KP m12 m' ∧ ∃ w' L', LX B N c' m' w' L' ∧ L'.length < L12.length) (Pn1 := fun c' _ => CS c' (k + 5) ∧ cN c12 66 ≤ cN c' 66) ?_ ?_ ?_ ?_
                · have hkk : cI c2 288 (mN m3 64) * 1024 + cI c2 298 (mN m3 64) = nI (mN m 64 * 1024 + (ub m3 (mN m3 64) + q)) := by
                    rw [y5, y3, key_eq, n64]
                  rw [hkk]
                  exact hB c0 m0 c c12 m m12 b12 w12 L12 O mc (k + 5) kl i v k (kl + 1) 40 (nI v) 0 _ (wX w') lc0 lc0 l1 _ _ _ _ hc12.here hm12 hX12 hs hbn12 (by have := kp12.2.2.1; omega) gr12.1 hkey (by rw [gr12.2.1]; exact hnrC) (by rw [gr12.2.2]; exact h56C) (hbn12.2.1.n63.trans h63) hkl
                · rintro v13 c13 b13 x13 m13 hc13 hm13 ⟨r2, es2, l2, nn2, hbn13, hkp13, w13, L13, hX13, hl13⟩
                  refine ⟨nI i, m13, rfl, hm13, Or.inl ⟨0, c13, b13, rfl, hc13.here, ?_⟩⟩
                  have h66 := hbn13.2.2.2.1
                  have h68 := hbn13.2.2.2.2.1
                  have h50 : v < mN m13 50 := by
                    have := kp12.2.2.1
                    have := hkp13.2.2.1
                    omega
                  refine (hbn13.debt (Nat.le_refl _) (by omega) (show k ≤ k + 5 by omega)).fin hX13 ?_ rfl ?_ ?_ ?_
                  · rw [hL', t4]; rw [hL12] at hl10; rw [hL8] at *; simp at hl10 ⊢; omega
                  · unfold um; rw [h66, if_neg (by decide)]
                  · exact Or.inr (Or.inr (Or.inr (Or.inr (Or.inr (Or.inr (Or.inr (Or.inr (Or.inr (Or.inr (Or.inr (Or.inl ⟨Or.inl h66, rfl, ⟨v, h68, h50, by rw [hkp13.2.2.2.2.2.2.2.1.2 v (by have := kp12.2.2.1; omega), aN_of gr12.1 (by have := hs.q64.2; omega), aN_of hbn13.2.2.1.2.1 (by have := hs.q64.2; omega)]⟩, hbn13.2.2.2.2.2.1⟩)))))))))))
                  · unfold cmb
                    rw [h66, if_pos rfl, aN_of h68 (by have := hbn13.1.nv.2.2.1; omega), hkp13.1 v (by have := kp12.2.2.1; omega), hkey]
                    simp
                · rintro v13 c13 b13 pl hc13 hbw ⟨hcs13, hle⟩
                  dsimp only
                  refine Or.inl ⟨0, c13, b13, rfl, hc13.here, hbw, hcs13.less (by omega), ?_⟩
                  have := hbn12.1.nv.2.2.2.2.2.1
                  have := hbn12.2.1.n35
                  omega
                · intro x13 z k2 pl h1 h2
                  exact ⟨nI i, z, rfl, h1, h2⟩
              · rintro v12 c12 b12 pl hc12 hbw ⟨rfl, fc12⟩
                dsimp only
                exact op_seq (Pn1 := fun _ _ => False) (hbB _ _ c0 c12 b12 pl (k + 5) (mN m10 56) hc12.here hbw (CS.adv hbn10.1.1 fc12).1 (by rw [cd_frI fc12 (by decide) (by decide)]; exact hbn10.1.nv.2.2.2.2.2.2.2.2.2.2.2.2.2) hbn10.1.nv.2.2.2.2.2.2.2.2.2.2.2.1) (fun _ _ _ _ _ y => y.elim)
            · rintro v9 c9 b9 pl hc9 hbw ⟨hcs9, hle⟩
              dsimp only
              exact op_seq (Pn1 := fun _ _ => False) (pass_bw hC hc9.here hbw (by decide)) (fun _ _ _ _ _ y => y.elim)
          · rintro v8 c8 b8 pl hc8 hbw ⟨rfl, fc8⟩
            dsimp only
            exact op_seq (Pn1 := fun _ _ => False) (hbx c0 c8 b8 pl hc8.here hbw) (fun _ _ _ _ _ y => y.elim)
    · obtain ⟨c', b', e1, e2⟩ := c_needName0 (n := n) hC hcA.1 hbw.2 (by rw [hbw.1]; decide)
      obtain ⟨x3, z3, g1, g2, g3⟩ := nf4 mA' 1 (wF w') hmA hnf
      refine ⟨x3, z3, ?_, g2, Or.inr (Or.inl ⟨wF w', op_thr e1 e2 hcA (ble.refl _), g3⟩)⟩
      rw [nf_binds hnf, bs_some]
      exact g1
theorem nf_let {n : Nat} {rm : md_R} : NFX (fun m => f_X12_letE n rm m) := by
  intro m0 m k pl hm h
  dsimp only
  obtain ⟨m', e1, e2, e3⟩ := nf_part (n := n) h
  unfold f_X12_letE
  rw [e1, bs_some]
  exact ⟨0, m', rfl, hm.fr e2 (by decide), e3⟩
