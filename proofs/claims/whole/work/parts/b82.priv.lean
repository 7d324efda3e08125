/-! priv in step -/
theorem PolQ.addL {c c' : cd_S} {m m' : md_S} {g l : Nat} (h : PolQ c m g g l) (hl : l < 12) (fc : cd_fr [99, 107, 289, 296] [] c c') (fm : md_fr [22, 23, 36, 42] m m') (h107 : cI c' 107 0 = nI (l + 1)) (h22 : mI m' 22 = nI (l + 1)) (o99 : ∀ i, i ≠ l → cAr c' 99 0 i = cAr c 99 0 i) (x99 : cAr c' 99 0 l = 0) (o23 : ∀ i, i ≠ 8 + l → mA m' 23 i = mA m 23 i) (x23 : mA m' 23 (8 + l) = 0) : PolQ c' m' g g (l + 1) := by
  obtain ⟨a1, a2, a3, a4, a5, a6, a7, a8, a9⟩ := h
  have hrp : ∀ r p, RP c m r p → RP c' m' r p := fun r p hr => hr.to (CE.of fc (by decide)) (ME.of fm (by decide))
  have hrt : ∀ o z, o ≠ 8 + l → RtR c m o z → RtR c' m' o z := fun o z ho hr => by
    obtain ⟨r1, r2, r3⟩ := hr
    refine ⟨by rw [o23 o ho]; exact r1, r2, fun x hx => ?_⟩
    obtain ⟨s1, s2⟩ := r3 x hx
    exact ⟨hrp _ _ s1, by rw [cd_frJ fc (by decide) (by decide), md_frL fm (by decide)]; exact s2⟩
  refine ⟨a1, a2, by omega, by rw [cd_frI fc (by decide) (by decide)]; exact a4, by rw [md_frI fm (by decide)]; exact a5, h107, h22, fun i hi => ?_, fun i hi => ?_⟩
  · obtain ⟨b1, z, b2, b3⟩ := a8 i hi
    exact ⟨hrp _ _ b1, z, by rw [cd_frA fc (by decide) (by decide)]; exact b2, hrt i z (by omega) b3⟩
  · by_cases hil : i = l
    · rw [hil]
      exact ⟨0, x99, x23, by omega, fun x hx => absurd hx (by omega)⟩
    · obtain ⟨z, b2, b3⟩ := a9 i (by omega)
      exact ⟨z, by rw [o99 i hil]; exact b2, hrt (8 + i) z (by omega) b3⟩
theorem priv_ok {n : Nat} {C : Nat × Nat} {B : Nat → Int32} {N : Nat} {rc : cd_R} {rm : md_R} {a : Int32} {dm kd : Nat} (hC : BC C) (hn : 5000 ≤ n) (hkd : kd ≤ 30) (hbx : BWX C (fun c b => rc 8 0 (a + 1) 0 c b)) (hB : BDY n C B N (fun c b => rc 8 0 (a + 1) 0 c b) (fun u m => rm 12 u 0 0 m) dm kd) (hnB : ∀ u, NFX (fun m => rm 12 u 0 0 m)) : EXw C B N (fun k => k = 220) (fun c b => f_X4_readPriv n rc c b a) (fun m => f_X12_priv n rm m) dm kd 3 := by
  intro c0 m0 c m b w L O mc k kl hc hm h hkw hs h63 hkl
  dsimp only at hkw ⊢
  unfold f_X4_readPriv f_X12_priv
  refine out_ck ?_
  rcases part_st (n := n) hC hc hm h hs with ⟨c', b', m', e1, e2, e3, e4, e5⟩ | ⟨c2, m2, e1, e2, hc2, hm2, h2, hs2, hg2, hp2, hb2, fc2, fm2⟩
  · refine out_thr e1 e3 hc (ble.refl _) (x := 0) (m' := m') ?_ e4 e5
    rw [e2, bs_some]
    rfl
  · refine out_c e1 ?_
    dsimp only
    rw [e2, bs_some]
    dsimp only
    rw [if_neg ne10]
    -- the model behind a fault
    have nf1 : ∀ (z : md_S) (k2 pl : Nat) (u i : Int32), MI m0 z → NF z k2 pl → ∃ x2 z2, f_X12_priv_J149 n rm z u i = some (x2, z2) ∧ MI m0 z2 ∧ NF z2 k2 pl := by
      intro z k2 pl u i h1 h2
      obtain ⟨x, z1, g1, g2, g3⟩ := hnB u m0 z k2 pl h1 h2
      unfold f_X12_priv_J149
      rw [show rm 12 u 0 0 z = _ from g1, bs_some]
      exact ⟨_, _, rfl, g2, g3⟩
    obtain ⟨q, hq, hcase⟩ := begin_ok (n := n) (s := 2) hC hc2 hm2 h2 hs2 (by omega) (by omega) (by omega)
    rw [hq, bs_some]
    rcases hcase with ⟨c', b', m', r1, r2, r3, r4, r5, r6⟩ | ⟨c3, m3, u, hu, hu60, r1, r2, hc3, hm3, h3, hs3, hg3, fc3, fm3, x1, x2, x3, x4, x5, x6, x7, x8, x9, x10⟩
    · have h65 : mI m' 65 = nI (mN m2 65) := by rw [md_frI r4 (by decide)]; exact hs2.now.2.2.2.2.2.2.1
      have hi9 : mN m2 65 < 900 := by have := hs2.nv.2.2.2.1; omega
      have f5 := ndm_fr m' (mN m2 65) 10 0 0
      have h6' : NF (ndm m' (mN m2 65) 10 0 0) 4 (wF w) := r6.fr f5 (by decide) (by decide)
      obtain ⟨x3', z3, g1, g2, g3⟩ := nf1 (ndm m' (mN m2 65) 10 0 0) 4 (wF w) 0 (nI (mN m2 65)) (r5.fr f5 (by decide)) h6'
      rw [show f_X12_newUnit n m2 2 q (mI m2 64) = _ from r3, bs_some]
      dsimp only
      rw [m_node h65 hi9, bs_some]
      dsimp only
      rw [nf_next h6', bs_some]
      dsimp only
      rw [nf_isSign h6', bs_some]
      dsimp only
      rw [if_pos rfl]
      refine ⟨x3', z3, g1, g2, Or.inr (Or.inr ⟨c', b', 4, wF w, ?_, r2.tx hc2, g3⟩)⟩
      rw [show f_X4_openUnit n c2 b 2 = _ from r1, bs_some]
      exact ck_inr rfl (ble.refl _)
    · have hu2 : mN m2 35 = mN m 35 := mN_fr fm2 (by decide)
      have hum : u = mN m 35 := by omega
      have hg3' : GR c c3 m m3 := GR.tr hs hg2 hg3
      have n64 := hg2.n64
      have hnow := hs.now
      have e62 : mN m3 62 = mN m2 62 := mN_fr fm3 (by decide)
      have e65 : mN m3 65 = mN m2 65 := mN_fr fm3 (by decide)
      obtain ⟨i, lc0, hi, n1, hbn⟩ := BN.new (n := n) (t := 10) (x := nI u) (y := 0) hs hs3 hg3' (by omega) (by omega) (by rw [← n64, x6, cd_frI fc2 (by decide) (by decide)]) (by
        have hne : 17 + 3 * mN m 64 ∉ [17 + 3 * u] := by simp; omega
        rw [rL_fr fc3 hne, rL_fr fc2 (by simp)]) (by rw [mN_fr fm3 (by decide), mN_fr fm2 (by decide)])
      obtain ⟨m4, hm4'⟩ : ∃ z, z = ndm m3 i 10 (nI u) 0 := ⟨_, rfl⟩
      rw [← hm4'] at n1 hbn
      have f4 : md_fr [65, 66, 67, 68, 69, 70, 71, 72] m3 m4 := by rw [hm4']; exact ndm_fr _ _ _ _ _
      have hclass : f_X4_openUnit n c2 b 2 = some (Sum.inl (u, c3, b)) := r1
      rw [hclass, bs_some, show f_X12_newUnit n m2 2 q (mI m2 64) = _ from r2, bs_some]
      refine out_ck ?_
      dsimp only [Sum.elim]
      rw [n1, bs_some]
      dsimp only
      have hX4 : LX B N c3 m4 w L := h3.fr (cd_fr_refl _ [] []) f4 (by decide) (by decide) (by decide)
      obtain ⟨c5, m5, a1, a2, a3, a4, ⟨w5, L5, hL5, a5⟩, a6⟩ := adv_ok (n := n) hn hX4 (by rw [hkw]; decide)
      rw [a1, bs_some, a2, bs_some]
      dsimp only
      have hc5 : CI C c0 b c5 b := hc3.fr a3 (by decide)
      have hm5 : MI m0 m5 := (hm3.fr f4 (by decide)).fr a4 (by decide)
      have cn0 : cN c 66 = mN m 35 := hs.nv.2.2.2.2.2.1
      obtain ⟨n', hn'⟩ : ∃ q, n = q + 1 := ⟨n - 1, by omega⟩
      have B5 : ∀ f, f ∉ [6, 7, 8, 9, 10, 11, 12, 13, 14, 15, 65, 66, 67, 68, 69, 70, 71, 72] → ∀ j, mA m5 f j = mA m3 f j := fun f hf j => by
        rw [md_frA a4 (fun y => hf (by revert y; simp; omega)), md_frA f4 (fun y => hf (by revert y; simp; omega))]
      have h289 : cI c5 289 u = nI 2 := by
        rw [cd_frI a3 (by decide) (by decide)]
        obtain ⟨z, -⟩ := hs3.ur u (by omega)
        rw [z, x4]
      -- the class without a limit
      have plain : f_X4_readPriv_J34 n rc c5 b a u 0 = cd_ck sF b (f_X4_readPriv_J110 n rc c5 b a u) := by
        unfold f_X4_readPriv_J34 f_X4_readPriv_J44
        rw [if_pos rfl]
        have hL0 : f_X4_readPriv_L47 n rc a u n c5 b 0 0 = some (Sum.inr (c5, b, 0, 0)) := by
          conv => lhs; rw [hn']
          rw [u_X4_readPriv_L47, if_pos rfl]
        rw [hL0, bs_some]
        dsimp only [Sum.elim]
        rw [h289, if_neg (show ¬ nI 2 = (3 : Int32) by decide)]
        rfl
      -- the end of it
      have fin : ∀ (c9 : cd_S) (m9 : md_S) (b9 : cd_B) (w9 : WD) (L9 : List WD), CI C c0 b9 c9 b9 → MI m0 m9 → LX B N c9 m9 w9 L9 → L9.length ≤ L5.length → BN c c9 m m9 (u :: O) mc (k + 6 + 15) kl i 10 (nI u) 0 lc0 lc0 lc0 [] [] [] [] → mA m9 36 u ≠ 0 → mA m9 36 u ≠ 4 → SP m9 u → mA m9 40 u = mA m5 40 u → mA m9 37 u = mA m9 37 (mN m 64) → mA m9 44 u = mA m5 44 u → cI c9 302 u = cI c5 302 u → rL c9 (17 + 3 * u) = rL c5 (17 + 3 * u) → mN m9 35 = mN m5 35 → OUT C c0 m0 b9 (f_X4_readPriv_J110 n rc c9 b9 a u) (f_X12_priv_J149 n rm m9 (nI u) (nI i)) (EOk 3 B N c m O mc k kl L) (fun c' _ => CS c' k ∧ cN c 66 ≤ cN c' 66) := by
        intro c9 m9 b9 w9 L9 hc9 hm9 hX9 hl9 hbn9 g36 g364 gSP g40 g37 g44 g302 gL g35
        unfold f_X4_readPriv_J110 f_X12_priv_J149
        have hu9 : u < mN m9 35 := by rw [g35, mN_fr a4 (by decide), mN_fr f4 (by decide)]; omega
        refine out_ret (hB c0 m0 c c9 m m9 b9 w9 L9 O mc (k + 6) kl i u k (kl + 1) lc0 lc0 lc0 _ _ _ _ hc9 hm9 hX9 hs (hbn9.debt (by omega) (by omega) (Nat.le_refl _)) (by omega) hu9 g36 (by rw [g40, B5 40 (by decide), x5, n64]) g37 (by rw [g44, B5 44 (by decide), x3]) (by rw [g302, cd_frI a3 (by decide) (by decide), x2]) (by rw [gL, rL_fr a3 (by simp), x1]) (hbn9.2.1.n63.trans h63) hkl) ?_ ?_
        · rintro v10 c10 b10 x10' m10 ⟨hbn10, hu10, h13, h45, w10, L10, hX10, hl10⟩
          refine (hbn10.debt (Nat.le_refl _) (by omega) (show k ≤ k + 6 by omega)).finU (Or.inr ⟨rfl, by simp, (by simp; exact fun y => g364 (h45.2.1.mp y)), h45.2.2 gSP⟩) hX10 ?_ hu10 (by omega) (by rw [hum]; exact hs.fresh) (fun q hq => absurd hq (by simp)) h13 h45.1 (by simp)
          rw [hL5]; simp; omega
        · rintro c10 b10 ⟨hcs10, hle10⟩
          refine ⟨hcs10.less (by omega), ?_⟩
          have := hbn9.1.nv.2.2.2.2.2.1
          have := hbn9.2.1.n35
          omega
      rcases a5 with hX5 | ⟨hbw, hnf⟩
      · have hbn5 := hbn.adv hs a3 a4 (a6 hX5.fine)
        rw [hX5.k.1, m_isSign hX5.fine hX5.mw sg91, bs_some]
        dsimp only
        have h37' : mA m5 37 u = mA m5 37 (mN m 64) := by rw [B5 37 (by decide), B5 37 (by decide), x10, n64]
        by_cases hk5 : wK w5 = 91
        · rw [if_pos hk5, if_pos hk5, if_neg ne10]
          obtain ⟨gg, ll, hpq⟩ : ∃ g l, PolQ c5 m5 g g l := by
            obtain ⟨-, -, -, -, -, -, -, -, -, z, -⟩ := hbn5.1
            exact z
          have hag : AGR c5 m5 := by
            obtain ⟨-, -, -, -, -, -, -, -, z, -⟩ := hbn5.1
            exact z
          have h107 := hpq.2.2.2.2.2.1
          have h22 := hpq.2.2.2.2.2.2.1
          have hll := hpq.2.2.1
          unfold f_X4_readPriv_J34 f_X4_openLimit f_X4_openLimit_J18
          rw [if_neg ne10, h107, h22]
          by_cases hl12 : ll = 12
          · rw [hl12, if_pos (show (12 : Int32) ≤ nI 12 by decide), if_pos (show nI 12 = (12 : Int32) from rfl)]
            obtain ⟨c', b', g1, g2⟩ := c_room0 (n := n) hC hc5.1 hX5.k.2.1
            obtain ⟨m', f1, f2, f3⟩ := m_failsW (n := n) (k := 4) hX5 (by decide) (by decide)
            have hol : cd_ck sF b (Option.bind (f_X4_room n c5 b 0) fun q1 => cd_ck sF (Sum.elim (fun (p : Int32 × cd_S × cd_B) => p.2.2) (fun (t : cd_S × cd_B) => t.2) q1) <| Sum.elim (fun p1 => Option.bind (some (cSI p1.2.1 289 u 3)) fun σ3 => Option.bind (some (cSI σ3 296 u ((cI σ3 107 0)))) fun σ4 => Option.bind (f_X3_addLimit n σ4 ) fun p5 => some (Sum.inl ((0 : Int32), p5.2, p1.2.2))) (fun t => some (Sum.inr t)) q1) = some (Sum.inr (c', b')) := by
              refine ck_inr ?_ ⟨g2.2.2.2.1, g2.2.2.2.2.1⟩
              rw [g1, bs_some]
              exact ck_inr rfl (ble.refl _)
            refine out_thr hol g2 hc5 (ble.refl _) (x := nI i) (m' := m') ?_ (hm5.fr f2 (by decide)) f3
            rw [show f_X12_fails n m5 4 = _ from f1, bs_some]
          · have hl' : ll < 12 := by omega
            have nle : ¬ (12 : Int32) ≤ nI ll := fun y => absurd ((nI_leI (a := 12) (by decide) (by omega)).mp y) (by omega)
            rw [if_neg nle, if_neg (show ¬ nI ll = (12 : Int32) from fun y => hl12 ((nI_eq (b := 12) (by omega) (by decide)).mp y))]
            obtain ⟨c6, hc6'⟩ : ∃ z, z = cSI (cSA (cSI (cSI c5 289 u 3) 296 u (nI ll)) 99 0 ll 0) 107 0 (nI (ll + 1)) := ⟨_, rfl⟩
            obtain ⟨m6, hm6'⟩ : ∃ z, z = mSA (mSI (mSA (mSA m5 36 u 3) 42 u (nI ll)) 22 (nI (ll + 1))) 23 (8 + ll) 0 := ⟨_, rfl⟩
            have hol : cd_ck sF b (Option.bind (f_X4_room n c5 b 1) fun q1 => cd_ck sF (Sum.elim (fun (p : Int32 × cd_S × cd_B) => p.2.2) (fun (t : cd_S × cd_B) => t.2) q1) <| Sum.elim (fun p1 => Option.bind (some (cSI p1.2.1 289 u 3)) fun σ3 => Option.bind (some (cSI σ3 296 u ((cI σ3 107 0)))) fun σ4 => Option.bind (f_X3_addLimit n σ4 ) fun p5 => some (Sum.inl ((0 : Int32), p5.2, p1.2.2))) (fun t => some (Sum.inr t)) q1) = some (Sum.inl (0, c6, b)) := by
              refine ck_inl ?_ (ble.refl _)
              rw [c_room1, bs_some]
              refine ck_inl ?_ (ble.refl _)
              dsimp only [Sum.elim]
              have e9 : cI (cSI c5 289 u 3) 107 0 = nI ll := by rw [cI_SIo (by decide)]; exact h107
              have e10 : cI (cSI (cSI c5 289 u 3) 296 u (nI ll)) 107 0 = nI ll := by rw [cI_SIo (by decide)]; exact e9
              have e11 : cI (cSA (cSI (cSI c5 289 u 3) 296 u (nI ll)) 99 0 ll 0) 107 0 = nI ll := e10
              rw [bs_some, bs_some, e9]
              unfold f_X3_addLimit
              rw [e10, if_neg nle, c_st99 hl', bs_some, e11, nI_1, bs_some, bs_some, hc6']
            refine out_c hol ?_
            dsimp only
            have e22 : mI (mSA (mSA m5 36 u 3) 42 u (nI ll)) 22 = nI ll := h22
            rw [m_st36 hu60, bs_some, show mI (mSA m5 36 u 3) 22 = nI ll from h22, m_st42 hu60, bs_some, bs_some, e22, nI_1, show (8 : Int32) = nI 8 from rfl, nI_add, m_st23 (by omega), bs_some, ← hm6']
            have fc6 : cd_fr [99, 107, 289, 296] [] c5 c6 := by rw [hc6']; exact cd_fr_SI (cd_fr_SA (cd_fr_SI (cd_fr_SI (cd_fr_refl _ _ _) (by decide) (by decide) _ _) (by decide) (by decide) _ _) (by decide) _ _ _) (by decide) (by decide) _ _
            have fm6 : md_fr [22, 23, 36, 42] m5 m6 := by rw [hm6']; exact md_fr_SA (md_fr_SI (md_fr_SA (md_fr_SA (md_fr_refl _ _) (by decide) _ _) (by decide) _ _) (by decide) _) (by decide) _ _
            have hP6 : PolQ c6 m6 gg gg (ll + 1) := by
              refine hpq.addL hl' fc6 fm6 (by rw [hc6', cI_SIe]) (by rw [hm6', mI_SA, mI_SIe]) (fun j hj => ?_) ?_ (fun j hj => ?_) (by rw [hm6', mA_SAe])
              · rw [hc6']; show cAr (cSA (cSI (cSI c5 289 u 3) 296 u (nI ll)) 99 0 ll 0) 99 0 j = _
                rw [cA_SAi hj]; rfl
              · rw [hc6']; show cAr (cSA (cSI (cSI c5 289 u 3) 296 u (nI ll)) 99 0 ll 0) 99 0 ll = _
                rw [cA_SAe]
              · rw [hm6', mA_SAi hj, mA_SI, mA_SAo (by decide), mA_SAo (by decide)]
            have x289 : cI c6 289 u = nI 3 := by
              rw [hc6', cI_SIo (by decide), cI_SA, cI_SIo (by decide), cI_SIe]; rfl
            have x296 : cI c6 296 u = nI ll := by rw [hc6', cI_SIo (by decide), cI_SA, cI_SIe]
            have o289 : ∀ j, j ≠ u → cI c6 289 j = cI c5 289 j := fun j hj => by rw [hc6', cI_SIo (by decide), cI_SA, cI_SIo (by decide), cI_SIi hj]
            have o296 : ∀ j, j ≠ u → cI c6 296 j = cI c5 296 j := fun j hj => by rw [hc6', cI_SIo (by decide), cI_SA, cI_SIi hj, cI_SIo (by decide)]
            have x36 : mA m6 36 u = nI 3 := by rw [hm6', mA_SAo (by decide), mA_SI, mA_SAo (by decide), mA_SAe]; rfl
            have x42 : mA m6 42 u = nI ll := by rw [hm6', mA_SAo (by decide), mA_SI, mA_SAe]
            have o36 : ∀ j, j ≠ u → mA m6 36 j = mA m5 36 j := fun j hj => by rw [hm6', mA_SAo (by decide), mA_SI, mA_SAo (by decide), mA_SAi hj]
            have o42 : ∀ j, j ≠ u → mA m6 42 j = mA m5 42 j := fun j hj => by rw [hm6', mA_SAo (by decide), mA_SI, mA_SAi hj, mA_SAo (by decide)]
            have hX6 : LX B N c6 m6 w5 L5 := hX5.frp fc6 fm6 (by decide) (by decide) (by decide) (hX5.pc.srt fm6 (by decide) (fun q h0 => by
              by_cases hq : q = u
              · rw [hq, B5 36 (by decide), x4]; decide
              · rw [o36 q hq] at h0; exact h0))
            have nf2 : ∀ (z : md_S) (k2 pl : Nat), MI m0 z → NF z k2 pl → ∃ x2 z2, (Option.bind (f_X12_sign n z (93 : Int32)) fun p17 => f_X12_priv_J149 n rm p17.2 (nI u) (nI i)) = some (x2, z2) ∧ MI m0 z2 ∧ NF z2 k2 pl := by
              intro z k2 pl h1 h2
              rw [nf_sign h2, bs_some]
              exact nf1 z k2 pl (nI u) (nI i) h1 h2
            unfold f_X4_readPriv_J44
            have hlim := limL (n := n) (rc := rc) (rm := rm) (a := a) (a1 := nI u) (a2 := nI i) (u := u) (g := gg) (l := ll) hC hn hl' 8 n' n' 0 c6 b m6 w5 L5 (by omega) (by omega) (by omega) (hc5.fr fc6 (by decide)) (hm5.fr fm6 (by decide)) hX6 (by rw [hk5]; decide) hP6 (by rw [hc6']; show cAr (cSA (cSI (cSI c5 289 u 3) 296 u (nI ll)) 99 0 ll 0) 99 0 ll = _; rw [cA_SAe]; rfl)
            rw [← hn'] at hlim
            refine out_loopx hlim ?_ ?_ (fun y k2 pl h1 h2 => nf2 y.1 k2 pl h1 h2)
            · rintro ⟨c7, b7, z7, y7⟩ ⟨m7, v7⟩ hc7 hm7 ⟨hb7, ⟨w7, L7, hX7, hl7⟩, hP7, fc7, fm7, s7, ras7⟩
              dsimp only at hc7 hm7 hb7 hX7 hP7 fc7 fm7 s7 ras7 ⊢
              rw [cd_frI fc7 (by decide) (by decide), x289, if_pos (show nI 3 = (3 : Int32) from rfl)]
              refine out_seq (pass_out (s := 93) (sk := 93) hC hn hc7.here hm7 hX7 sg93 (by decide)) ?_ ?_ (fun _ z k2 pl h1 h2 => nf1 z k2 pl (nI u) (nI i) h1 h2)
              · rintro v8 c8 b8 x8' m8 hc8 hm8 ⟨rfl, hk8, ⟨w8, L8, hL8, hX8⟩, fc8, fm8, s8⟩
                dsimp only
                have fcA : cd_fr [98, 99, 107, 160, 161, 162, 163, 289, 296, 327, 328, 329, 330] [] c5 c8 := cd_fr_tr (cd_fr_tr fc6 fc7 (L3 := [98, 99, 107, 160, 161, 162, 163, 289, 296, 327, 328, 329, 330]) (fun k hk => ⟨nin (by decide) hk, nin (by decide) hk⟩) (fun k hk => ⟨hk, hk⟩)) fc8 (fun k hk => ⟨hk, nin (by decide) hk⟩) (fun k hk => ⟨hk, hk⟩)
                have fmA : md_fr [6, 7, 8, 9, 10, 11, 12, 13, 14, 15, 17, 18, 19, 22, 23, 24, 36, 42] m5 m8 := md_fr_tr (md_fr_tr fm6 fm7 (L3 := [6, 7, 8, 9, 10, 11, 12, 13, 14, 15, 17, 18, 19, 22, 23, 24, 36, 42]) (fun k hk => ⟨nin (by decide) hk, nin (by decide) hk⟩)) fm8 (fun k hk => ⟨hk, nin (by decide) hk⟩)
                have C8 : ∀ f j, f = 289 ∨ f = 296 → cI c8 f j = cI c6 f j := fun f j hf => by
                  rcases hf with rfl | rfl
                  · rw [cd_frI fc8 (by decide) (by decide), cd_frI fc7 (by decide) (by decide)]
                  · rw [cd_frI fc8 (by decide) (by decide), cd_frI fc7 (by decide) (by decide)]
                have M8 : ∀ f j, f = 36 ∨ f = 42 → mA m8 f j = mA m6 f j := fun f j hf => by
                  rcases hf with rfl | rfl
                  · rw [md_frA fm8 (by decide), md_frA fm7 (by decide)]
                  · rw [md_frA fm8 (by decide), md_frA fm7 (by decide)]
                have hras : RAS c5 c8 m5 m8 := ((RAS.fr fc6 fm6 (by decide) (by decide)).tr ras7).tr (RAS.fr fc8 fm8 (by decide) (by decide))
                have hP8 := hP7.fr fc8 fm8 (by decide) (by decide)
                obtain ⟨hs8, hkv8, -⟩ := ST.lim (u := u) hbn5.1 (by rw [mN_fr a4 (by decide), mN_fr f4 (by decide)]; omega) (by rw [hbn5.2.1.n64]; omega) fcA fmA (fun j hj => by rw [C8 _ _ (Or.inl rfl)]; exact o289 j hj) (fun j hj => by rw [C8 _ _ (Or.inr rfl)]; exact o296 j hj) (fun j hj => by rw [M8 _ _ (Or.inl rfl)]; exact o36 j hj) (fun j hj => by rw [M8 _ _ (Or.inr rfl)]; exact o42 j hj) (by rw [B5 36 (by decide), x4]; decide) (by rw [B5 36 (by decide), x4]; decide) (by rw [C8 _ _ (Or.inl rfl)]; exact x289) (by rw [M8 _ _ (Or.inl rfl)]; exact x36) (by rw [C8 _ _ (Or.inr rfl), M8 _ _ (Or.inr rfl), x296, x42]) ⟨ll, by rw [mN_of hP8.2.2.2.2.2.2.1 (by omega)]; omega, by rw [M8 _ _ (Or.inr rfl), x42]⟩ (by rw [mN_of hP8.2.2.2.2.2.2.1 (by omega), mN_of hpq.2.2.2.2.2.2.1 (by omega)]; omega) (hag.ras hras (CE.of fcA (by decide)) (ME.of fmA (by decide))) ⟨gg, ll + 1, hP7.fr fc8 fm8 (by decide) (by decide)⟩
                have s58 : mI m8 7 = mI m5 7 := by rw [s8, s7, md_frI fm6 (by decide)]
                have hbn8 := hbn5.lim (u := u) (by omega) hs8 hkv8 fcA fmA (fun j hj => by rw [M8 _ _ (Or.inl rfl)]; exact o36 j hj) (by rw [M8 _ _ (Or.inl rfl)]; exact x36) (by rw [B5 36 (by decide), x4]; decide) s58
                refine fin c8 m8 b8 w8 L8 hc8.here hm8 hX8 (by rw [hL8] at hl7; simp at hl7; omega) hbn8 (by rw [M8 _ _ (Or.inl rfl), x36]; decide) (by rw [M8 _ _ (Or.inl rfl), x36]; decide) (Or.inr (Or.inl (by rw [M8 _ _ (Or.inl rfl), x36]; rfl))) (md_frA fmA (by decide) u) (by rw [md_frA fmA (by decide), md_frA fmA (by decide)]; exact h37') (md_frA fmA (by decide) u) (cd_frI fcA (by decide) (by decide) u) (rL_fr fcA (by simp)) (mN_fr fmA (by decide))
              · rintro v8 c8 b8 pl hc8 hbw ⟨rfl, fc8⟩
                dsimp only
                unfold f_X4_readPriv_J110
                rw [bs_some]
                have fcP : cd_fr [136] [] c8 (cSP c8 136 0 (u + 1)) := cd_fr_SP (cd_fr_refl _ _ _) (by decide) _ _
                exact op_seq (Pn1 := fun _ _ => False) (hbx c0 _ b8 pl (hc8.here.fr fcP (by decide)) ⟨by rw [cI_SP]; exact hbw.1, by rw [cI_SP]; exact hbw.2⟩) (fun _ _ _ _ _ y => y.elim)
            · rintro ⟨c7, b7, z7, y7⟩ pl hc7 hbw ⟨hb7, fc7⟩
              dsimp only at hc7 hbw hb7 fc7 ⊢
              rw [cd_frI fc7 (by decide) (by decide), x289, if_pos (show nI 3 = (3 : Int32) from rfl)]
              exact op_seq (Pn1 := fun _ _ => False) (pass_bw hC hc7.here hbw (by decide)) (fun _ _ _ _ _ y => y.elim)
        · rw [if_neg hk5, if_neg hk5, if_pos rfl, plain]
          refine out_ck ?_
          exact fin c5 m5 b w5 L5 hc5 hm5 hX5 (Nat.le_refl _) hbn5 (by rw [B5 36 (by decide), x4]; decide) (by rw [B5 36 (by decide), x4]; decide) (Or.inl (by rw [B5 36 (by decide), x4]; rfl)) rfl h37' rfl rfl rfl rfl
      · rw [hbw.1, if_neg (by decide), nf_isSign hnf, bs_some]
        dsimp only
        rw [if_pos rfl, plain]
        obtain ⟨x3', z3, g1, g2, g3⟩ := nf1 m5 1 (wF w5) (nI u) (nI i) hm5 hnf
        refine ⟨x3', z3, g1, g2, Or.inr (Or.inl ⟨wF w5, op_ck ?_, g3⟩)⟩
        unfold f_X4_readPriv_J110
        rw [bs_some]
        have fcP : cd_fr [136] [] c5 (cSP c5 136 0 (u + 1)) := cd_fr_SP (cd_fr_refl _ _ _) (by decide) _ _
        exact op_seq (Pn1 := fun _ _ => False) (hbx c0 _ b (wF w5) (hc5.fr fcP (by decide)) ⟨by rw [cI_SP]; exact hbw.1, by rw [cI_SP]; exact hbw.2⟩) (fun _ _ _ _ _ y => y.elim)
