/-! rows in braces, whole -/
theorem EOk.adv {pw : Nat} {B : Nat → Int32} {N : Nat} {c c' c2 : cd_S} {m m' m2 : md_S} {O : List Nat} {mc k kl k0 kl0 : Nat} {L L2 : List WD} {v x : Int32} {b' b2 : cd_B} {w2 : WD} (h : EOk pw B N c m O mc k kl L v c' b' x m') (hs0 : ST c m O mc k0 kl0) (hc : cd_fr [327, 328, 329, 330] [] c' c2) (hm : md_fr [6, 7, 8, 9, 10, 11, 12, 13, 14, 15] m' m2) (h7 : mI m2 7 = mI m' 7) (hX2 : LX B N c2 m2 w2 L2) (hl : L2.length < L.length) : EOk pw B N c m O mc k kl L v c2 b2 x m2 := by
  obtain ⟨⟨w', L', hX, hl'⟩, hs, hg, hp, f, r, es, l0, l1, ns, e, y0, y1, yb0, yb1, ⟨hG, hW⟩, hb, h71, hL', hcv⟩ := h
  obtain ⟨-, q35, q50, -⟩ := hs.nv
  have hgr := GR.adv hc hm q35 h7
  refine ⟨⟨w2, L2, hX2, hl⟩, hs.adv hc hm, GR.tr hs0 hg hgr, by rw [mN_fr hm (by decide)]; exact hp, f, r, es, l0, l1, ns, e, y0, by rw [cd_frI hc (by decide) (by decide)]; exact y1, yb0, yb1, ⟨hG.to hgr.2.1 q35 (by omega) hb.2.2.1 (TK.gr hgr hs hb), hW.to rfl (fun q => Gen.gw hG hb.2.2.1 (TK.gr hgr hs hb) q)⟩, hb.gr hgr.1.1 hgr.n35, by rw [md_frA hm (by decide)]; exact h71, by rw [rL_fr hc (by simp)]; exact hL', hcv.fr hm (by decide) (by decide) (by decide)⟩
theorem row_ok {n : Nat} {C : Nat × Nat} {B : Nat → Int32} {N : Nat} {rc : cd_R} {rm : md_R} {a : Int32} {dm kd : Nat} (hC : BC C) (hn : 5000 ≤ n) (hkd : kd ≤ 30) (hx : EX C B N (fun c b => rc 0 0 (a + 1) 0 c b) (fun m => rm 0 0 0 0 m) dm kd 6) (hnx : NFX (fun m => rm 0 0 0 0 m)) (hbx : BWX C (fun c b => rc 0 0 (a + 1) 0 c b)) : EXw C B N (fun k => k = 123) (fun c b => f_X4_readRow n rc c b a) (fun m => f_X12_row n rm m) dm kd 6 := by
  intro c0 m0 c m b w L O mc k kl hc hm h hkw hs h63 hkl
  dsimp only at hkw ⊢
  obtain ⟨q, hq⟩ : ∃ q, n = q + 1 := ⟨n - 1, by omega⟩
  unfold f_X4_readRow f_X12_row
  refine out_ck ?_
  obtain ⟨c1, m1, a1, a2, a3, a4, ⟨w1, L1, hL1, a5⟩, a6⟩ := adv_ok (n := n) hn h (by rw [hkw]; decide)
  have hsign : f_X12_sign n m 123 = some (0, m1) := by
    unfold f_X12_sign
    rw [m_isSign h.fine h.mw sg123, bs_some, if_pos hkw]
    dsimp only
    rw [if_neg ne10, a2, bs_some]
  rw [a1, bs_some, hsign, bs_some]
  dsimp only
  have hc1 : CI C c0 b c1 b := hc.fr a3 (by decide)
  have hm1 : MI m0 m1 := hm.fr a4 (by decide)
  have cn0 : cN c 66 = mN m 35 := hs.nv.2.2.2.2.2.1
  -- the model behind a fault
  have nfB : ∀ (x2 : Int32) (q1 : md_S) (k2 pl : Nat), MI m0 q1 → NF q1 k2 pl → ∃ x3 q3, (Option.bind (f_X12_isSign n q1 (59 : Int32)) fun p3 => if p3.1 = 0 then (Option.bind (f_X12_sign n p3.2 (125 : Int32)) fun p13 => some (x2, p13.2)) else (Option.bind (f_X12_node n p3.2 (42 : Int32) (0 : Int32) (0 : Int32)) fun p4 => Option.bind (f_X12_gets n p4.2 (p4.1) x2) fun p5 => Option.bind (f_X12_row_L43 n rm (p4.1) n p5.2) fun q11 => Option.bind (f_X12_sign n q11 (125 : Int32)) fun p12 => some (p4.1, p12.2))) = some (x3, q3) ∧ MI m0 q3 ∧ NF q3 k2 pl := by
    intro x2 q1 k2 pl h1 h2
    rw [nf_isSign h2, bs_some]
    dsimp only
    rw [if_pos rfl, nf_sign h2, bs_some]
    exact ⟨_, _, rfl, h1, h2⟩
  rcases a5 with hX1 | ⟨hbw, hnf⟩
  · have hs1 : ST c1 m1 O mc k (kl + 1) := hs.adv a3 a4
    have hg1 : GR c c1 m m1 := GR.adv a3 a4 hs.nv.2.1 (a6 hX1.fine)
    refine out_seq (hx c0 m0 c1 m1 b w1 L1 O mc k kl hc1 hm1 hX1 hs1 (hg1.n63.trans h63) hkl) ?_ ?_ (fun x2 q1 k2 pl h1 h2 => nfB x2 q1 k2 pl h1 h2)
    · intro v c2 b2 x2 m2 hc2 hm2 hE1
      dsimp only
      have hE : EOk 6 B N c m O mc k kl L v c2 b2 x2 m2 := hE1.pre hs hg1 (mN_fr a4 (by decide)) (mN_fr a4 (by decide)) (mN_fr a4 (by decide)) (cd_frI a3 (by decide) (by decide) _) (rL_fr a3 (by simp)) (by rw [hL1]; simp)
      obtain ⟨w2, L2, hX2, hl2⟩ := hE.1
      have h24 : mN m 63 < 24 := hE.d24 (by omega)
      rw [m_isSign hX2.fine hX2.mw sg59, bs_some]
      dsimp only
      by_cases h59 : wK w2 = 59
      · rw [if_pos h59, if_neg ne10]
        obtain ⟨i, lc0, l1, r, es, ns, m3, m4, hi9, n1, n2, hbn, f24⟩ := BN.wrap (n := n) (t := 42) (x := 0) (y := 0) (kl2 := kl + 1) hn hs (by omega) (by omega) hE (by omega) (fun _ => by omega) (by have := hE.2.1.2.2.1.2.1; omega)
        rw [n1, bs_some]
        dsimp only
        rw [n2, bs_some]
        dsimp only
        have hm4 : MI m0 m4 := hm2.fr f24 (by decide)
        have hX4 : LX B N c2 m4 w2 L2 := hX2.fr (cd_fr_refl _ [] []) f24 (by decide) (by decide) (by decide)
        have hre : rowE [es] = es := by simp [rowE]
        have hloop := rowL (n := n) hC hn hkd hx hnx hbx (c0 := c0) (m0 := m0) (k := k) (kl := kl) (p := i) (lc0 := lc0) hs h63 hkl 1280 q q 0 c2 b2 m4 w2 L2 l1 [r] [es] ns hX2.len (by omega) (by omega) (by omega) hc2.here hm4 hX4 (by rw [hre]; exact hbn) (by simp) rfl (Or.inl h59)
        rw [← hq] at hloop
        refine out_loop hloop ?_ ?_ ?_
        · rintro c5 b5 i5 m5 hc5 hm5 ⟨w5, L5, l5, ch5, ess5, ns5, hX5, hl5, hbn5, hch5, hel5⟩
          dsimp only
          refine out_seq (pass_out (s := 125) (sk := 125) hC hn hc5.here hm5 hX5 sg125 (by decide)) ?_ ?_ ?_
          · rintro v6 c6 b6 x6 m6 hc6 hm6 ⟨rfl, -, ⟨w6, L6, hL6, hX6⟩, fc6, fm6, s6⟩
            have hbn6 := hbn5.adv hs fc6 fm6 s6
            have h66 := hbn6.2.2.2.1
            refine ⟨nI i, m6, rfl, hm6, Or.inl ⟨0, c6, b6, rfl, hc6.here, ?_⟩⟩
            refine hbn6.fin6 hX6 ?_ rfl ?_ ?_ ?_ (h24)
            · rw [hL6] at hl5; simp at hl5; omega
            · unfold um; rw [h66, if_neg (by decide)]
            · exact Or.inr (Or.inr (Or.inr (Or.inr (Or.inr (Or.inr (Or.inr (Or.inr (Or.inr (Or.inr (Or.inr (Or.inr (Or.inr ⟨h66, hch5, hbn6.2.2.2.2.1, hbn6.2.2.2.2.2.1⟩))))))))))))
            · unfold cmb
              rw [h66, if_neg (by decide), if_neg (by decide), if_neg (by decide), if_pos rfl]
          · rintro v6 c6 b6 pl hc6 hbw ⟨rfl, fc6⟩
            obtain ⟨z1, z2⟩ := CS.adv hbn5.1.1 fc6
            refine Or.inl ⟨0, c6, b6, rfl, hc6.here, hbw, z1, ?_⟩
            have := hbn5.1.nv.2.2.2.2.2.1
            have := hbn5.2.1.n35
            omega
          · intro x6 m6 k2 pl h1 h2
            exact ⟨nI i, m6, rfl, h1, h2⟩
        · rintro c5 b5 i5 pl hc5 hbw hcs
          exact op_seq (Pn1 := fun _ _ => False) (pass_bw hC hc5.here hbw (by decide)) (fun _ _ _ _ _ y => y.elim)
        · intro m5 k2 pl h1 h2
          rw [nf_sign h2, bs_some]
          exact ⟨nI i, m5, rfl, h1, h2⟩
      · rw [if_neg h59, if_pos rfl]
        have hl : f_X4_readRow_L16 n rc a n c2 b2 0 = some (Sum.inr (c2, b2, 0)) := by
          have : f_X4_readRow_L16 n rc a (q + 1) c2 b2 0 = some (Sum.inr (c2, b2, 0)) := by
            rw [u_X4_readRow_L16, if_neg (show ¬ (3000 : Int32) ≤ 0 by decide), hX2.k.1, if_neg h59]
          rw [← hq] at this
          exact this
        rw [hl, bs_some]
        refine out_ck ?_
        dsimp only [Sum.elim]
        refine out_seq (pass_out (s := 125) (sk := 125) hC hn hc2.here hm2 hX2 sg125 (by decide)) ?_ ?_ ?_
        · rintro v6 c6 b6 x6 m6 hc6 hm6 ⟨rfl, -, ⟨w6, L6, hL6, hX6⟩, fc6, fm6, s6⟩
          refine ⟨x2, m6, rfl, hm6, Or.inl ⟨0, c6, b6, rfl, hc6.here, ?_⟩⟩
          exact eok0 _ _ _ _ _ (hE.adv hs fc6 fm6 s6 hX6 (by rw [hL6] at hl2; simp at hl2; omega))
        · rintro v6 c6 b6 pl hc6 hbw ⟨rfl, fc6⟩
          obtain ⟨z1, z2⟩ := CS.adv hE.2.1.1 fc6
          refine Or.inl ⟨0, c6, b6, rfl, hc6.here, hbw, z1, ?_⟩
          have := hE.2.1.nv.2.2.2.2.2.1
          have := hE.2.2.1.n35
          omega
        · intro x6 m6 k2 pl h1 h2
          exact ⟨x2, m6, rfl, h1, h2⟩
    · rintro v c2 b2 pl hc2 hbw ⟨hcs, hle⟩
      dsimp only
      have hl : f_X4_readRow_L16 n rc a n c2 b2 0 = some (Sum.inr (c2, b2, 0)) := by
        have : f_X4_readRow_L16 n rc a (q + 1) c2 b2 0 = some (Sum.inr (c2, b2, 0)) := bw_rowL hbw
        rw [← hq] at this
        exact this
      rw [hl, bs_some]
      refine op_ck ?_
      dsimp only [Sum.elim]
      exact op_seq (Pn1 := fun _ _ => False) (pass_bw hC hc2.here hbw (by decide)) (fun _ _ _ _ _ y => y.elim)
  · obtain ⟨x2, q1, g1, g2, g3⟩ := hnx m0 m1 1 (wF w1) hm1 hnf
    obtain ⟨x3, q3, y1, y2, y3⟩ := nfB x2 q1 1 (wF w1) g2 g3
    refine ⟨x3, q3, ?_, y2, Or.inr (Or.inl ⟨wF w1, ?_, y3⟩)⟩
    · rw [show rm 0 0 0 0 m1 = _ from g1, bs_some]
      exact y1
    · exact op_seq (Pn1 := fun _ _ => False) (hbx c0 c1 b (wF w1) hc1 hbw) (fun _ _ _ _ _ y => y.elim)
theorem nf_row {n : Nat} {rm : md_R} (hnx : NFX (fun m => rm 0 0 0 0 m)) : NFX (fun m => f_X12_row n rm m) := by
  intro m0 m k pl hm h
  dsimp only
  unfold f_X12_row
  rw [nf_sign h, bs_some]
  dsimp only
  obtain ⟨x2, q1, g1, g2, g3⟩ := hnx m0 m k pl hm h
  rw [show rm 0 0 0 0 m = _ from g1, bs_some]
  dsimp only
  rw [nf_isSign g3, bs_some]
  dsimp only
  rw [if_pos rfl, nf_sign g3, bs_some]
  exact ⟨_, _, rfl, g2, g3⟩
