/-! under in step -/
theorem out_ret {C : Nat × Nat} {c0 : cd_S} {m0 : md_S} {b : cd_B} {fc : Option Th} {fm : Option (Int32 × md_S)} {Ok1 Ok : Int32 → cd_S → cd_B → Int32 → md_S → Prop} {Pn1 Pn : cd_S → cd_B → Prop} {y : Int32} (h : OUT C c0 m0 b fc fm Ok1 Pn1) (h1 : ∀ v c' b' x m', Ok1 v c' b' x m' → Ok v c' b' y m') (h2 : ∀ c' b', Pn1 c' b' → Pn c' b') : OUT C c0 m0 b fc (Option.bind fm fun p => some (y, p.2)) Ok Pn := by
  obtain ⟨x, m', e1, e2, h⟩ := OUT.imp (Ok2 := fun v c' b' _ m' => Ok v c' b' y m') h h1 h2
  rw [e1, bs_some]
  exact ⟨y, m', rfl, e2, h⟩
theorem ST.fresh {c : cd_S} {m : md_S} {O : List Nat} {mc k kl : Nat} (h : ST c m O mc k kl) : mN m 35 ∉ O := by
  obtain ⟨-, -, -, -, -, -, -, -, -, -, z, -⟩ := h
  exact fun y => by have := z.2.1 _ y; omega
/-- the body of unit u, which node i gets -/
def BDY (n : Nat) (C : Nat × Nat) (B : Nat → Int32) (N : Nat) (fc : cd_S → cd_B → Option Th) (fm : Int32 → md_S → Option (Int32 × md_S)) (dm kd : Nat) : Prop :=
  ∀ (c0 : cd_S) (m0 : md_S) (c c1 : cd_S) (m m1 : md_S) (b : cd_B) (w : WD) (L : List WD) (O : List Nat) (mc k kl i u k0 kl0 lc0 l0 l1 : Nat) (ch : List Nat) (ess : List (List EN)) (ns : List Nat) (pre : List EN), CI C c0 b c1 b → MI m0 m1 → LX B N c1 m1 w L → ST c m O mc k0 kl0 → BN c c1 m m1 (u :: O) mc (k + 15) (kl + 1) i 10 (nI u) 0 lc0 l0 l1 ch ess ns pre → mN m 35 ≤ u → u < mN m1 35 → mA m1 36 u ≠ 0 → mA m1 40 u = nI (mN m 64) → mA m1 37 u = mA m1 37 (mN m 64) → mA m1 44 u = 0 → cI c1 302 u = 0 → rL c1 (17 + 3 * u) = [] → mI m1 63 = nI dm → kl ≤ kd →
    OUT C c0 m0 b (Option.bind (some (cSP c1 136 0 (u + 1))) fun σ1 => Option.bind (fc σ1 b) fun q2 => cd_ck sF (Sum.elim (fun (p : Int32 × cd_S × cd_B) => p.2.2) (fun (t : cd_S × cd_B) => t.2) q2) <| Sum.elim (fun p2 => Option.bind (f_X4_closeInner n p2.2.1 (p2.2.2) u (10 : Int32)) fun p4 => cd_ck sF (p4.2.2) <| some (Sum.inl ((0 : Int32), p4.2.1, p4.2.2))) (fun t => some (Sum.inr t)) q2) (fm (nI u) m1)
      (fun _ c' _ _ m' => BN c c' m m' O mc k kl i 10 (nI u) 0 lc0 l0 l1 ch ess ns (pre ++ gts m' u ++ [(10, nI u, 0)]) ∧ u < mN m' 35 ∧ aN m' 44 u ≤ 13 ∧ (H45 m' u (mN m 64) ∧ (mA m' 36 u = 4 ↔ mA m1 36 u = 4) ∧ (SP m1 u → SP m' u)) ∧ ∃ w' L', LX B N c' m' w' L' ∧ L'.length < L.length) (fun c' _ => CS c' k ∧ cN c1 66 ≤ cN c' 66)
theorem nf_body {n : Nat} {rm : md_R} (v : Int32) : NFX (fun m => f_X12_bodyOf n rm m v) := by
  intro m0 m k pl hm h
  dsimp only
  unfold f_X12_bodyOf
  rw [nf_isFine h, bs_some]
  exact ⟨0, m, rfl, hm, h⟩
theorem body_ok {n : Nat} {C : Nat × Nat} {B : Nat → Int32} {N : Nat} {fc : cd_S → cd_B → Option Th} {rm : md_R} {dm kd : Nat} (hC : BC C) (hn : 5000 ≤ n) (hx : EX C B N fc (fun m => rm 1 0 0 0 m) dm kd 6) : BDY n C B N fc (fun u m => f_X12_bodyOf n rm m u) dm kd := by
  intro c0 m0 c c1 m m1 b w L O mc k kl i u k0 kl0 lc0 l0 l1 ch ess ns pre hc hm h hs hbn hu0 hu h36 h40 h37 h44 h302 hrL h63 hkl
  dsimp only
  have hinn := INN.start hbn hu0 hu h36 h40 h37 h44
  have hu60 : u < 60 := by have := hbn.1.nv.2.1; omega
  have hnow := hbn.1.now
  have n64 := hbn.2.1.n64
  unfold f_X12_bodyOf
  rw [bs_some, m_fine, bs_some, if_pos h.fine]
  dsimp only
  rw [if_neg ne10, bs_some]
  obtain ⟨c2, hc2⟩ : ∃ z, z = cSP c1 136 0 (u + 1) := ⟨_, rfl⟩
  obtain ⟨m2, hm2⟩ : ∃ z, z = mSI m1 64 (nI u) := ⟨_, rfl⟩
  rw [← hc2, ← hm2] at hinn ⊢
  have fc2 : cd_fr [136] [] c1 c2 := by rw [hc2]; exact cd_fr_SP (cd_fr_refl _ _ _) (by decide) _ _
  have fm2 : md_fr [64] m1 m2 := by rw [hm2]; exact md_fr_SI (md_fr_refl _ _) (by decide) _
  refine out_seq (hx c0 m0 c2 m2 b w L (u :: O) mc (k + 15) kl (hc.fr fc2 (by decide)) (hm.fr fm2 (by decide)) (h.fr fc2 fm2 (by decide) (by decide) (by decide)) hinn.1 (by rw [md_frI fm2 (by decide)]; exact h63) hkl) ?_ ?_ ?_
  · intro v3 c3 b3 x3 m3 hc3 hm3 hE3
    dsimp only
    obtain ⟨hinn3, ⟨f, r, es, l1', ns', rfl, hr, hG, hl3, hnb, hrL3, hcov3⟩, hkp, hcv3, w3, L3, hX3, hlen⟩ := hinn.read hs hE3 (by omega) (by rw [cd_frI fc2 (by decide) (by decide)]; exact h302) (by rw [rL_fr fc2 (by simp)]; exact hrL) (hbn.cv.fr fm2 (by decide) (by decide) (by decide))
    have h56 : mN m3 56 = mN m 56 := by
      obtain ⟨-, -, -, -, f3, -⟩ := hE3.2.2.1
      obtain ⟨-, -, -, -, f1, -⟩ := hbn.2.1
      rw [mN, mN, f3, md_frI fm2 (by decide), f1]
    obtain ⟨c4, b4, e1, e2, e3, e4, e5, e6, e7, e8⟩ := INN.shut (n := n) hC hn hinn3 hs h56 hr hG hl3 hnb (by rw [mN_fr fm2 (by decide)]; exact hu) hrL3 hcv3 hcov3 hc3.here hX3
    rw [m_st41 hu60, bs_some, bs_some, hnow.2.2.2.2.1, n64]
    refine out_em e1 e2 ?_
    refine ⟨0, _, rfl, ?_, Or.inl ⟨0, c4, b4, rfl, e3, e5, e6, e7, ⟨e8, by
      have := hkp.2.2.2.2.2.2.2.2.1.2 u (by rw [mN_fr fm2 (by decide)]; exact hu)
      unfold SP at this
      rw [md_frA fm2 (by decide)] at this
      exact this⟩, w3, L3, e4, hlen⟩⟩
    exact hm3.fr (F := [41, 64]) (md_fr_SI (md_fr_SA (md_fr_refl _ _) (by decide) _ _) (by decide) _) (by decide)
  · rintro v3 c3 b3 pl hc3 hbw ⟨hcs, hle⟩
    dsimp only
    have hcn : u < cN c3 66 := by
      have e1 : cN c2 66 = cN c1 66 := by rw [cN, cN, cd_frI fc2 (by decide) (by decide)]
      have e2 := hbn.1.nv.2.2.2.2.2.1
      omega
    obtain ⟨c4, b4, e1, e2, e3, e4, e5, e6⟩ := cs_shut (n := n) (u := u) (what := 10) (k := k) hC hn hcs hc3 hcn
    refine op_em e1 e2 ?_
    refine Or.inl ⟨0, c4, b4, rfl, e3, e6 pl hbw, e4, ?_⟩
    have e1 : cN c2 66 = cN c1 66 := by rw [cN, cN, cd_frI fc2 (by decide) (by decide)]
    omega
  · intro x3 m3 k2 pl h1 h2
    dsimp only
    rw [m_st41 hu60, bs_some, bs_some]
    have ff : md_fr [41, 64] m3 (mSI (mSA m3 41 u x3) 64 (mI m1 64)) := md_fr_SI (md_fr_SA (md_fr_refl _ _) (by decide) _ _) (by decide) _
    exact ⟨0, _, rfl, h1.fr ff (by decide), h2.fr ff (by decide) (by decide)⟩
theorem under_ok {n : Nat} {C : Nat × Nat} {B : Nat → Int32} {N : Nat} {rc : cd_R} {rm : md_R} {a : Int32} {dm kd : Nat} (hC : BC C) (hn : 5000 ≤ n) (hkd : kd ≤ 30) (hx : EX C B N (fun c b => rc 8 0 (a + 1) 0 c b) (fun m => rm 1 0 0 0 m) dm kd 6) (hnx : NFX (fun m => rm 1 0 0 0 m)) (hbx : BWX C (fun c b => rc 8 0 (a + 1) 0 c b)) (hB : BDY n C B N (fun c b => rc 8 0 (a + 1) 0 c b) (fun u m => rm 12 u 0 0 m) dm kd) (hnB : ∀ u, NFX (fun m => rm 12 u 0 0 m)) : EXw C B N (fun k => k = 221) (fun c b => f_X4_readUnder n rc c b a) (fun m => f_X12_under n rm m) dm kd 3 := by
  intro c0 m0 c m b w L O mc k kl hc hm h hkw hs h63 hkl
  dsimp only at hkw ⊢
  unfold f_X4_readUnder f_X12_under
  refine out_ck ?_
  rcases part_st (n := n) hC hc hm h hs with ⟨c', b', m', e1, e2, e3, e4, e5⟩ | ⟨c2, m2, e1, e2, hc2, hm2, h2, hs2, hg2, hp2, hb2, fc2, fm2⟩
  · refine out_thr e1 e3 hc (ble.refl _) (x := 0) (m' := m') ?_ e4 e5
    rw [e2, bs_some]
    rfl
  · refine out_c e1 ?_
    dsimp only
    rw [e2, bs_some]
    dsimp only
    rw [if_neg ne10]
    -- the model behind a fault
    have nf1 : ∀ (z : md_S) (k2 pl : Nat) (u i : Int32), MI m0 z → NF z k2 pl → ∃ x2 z2, (Option.bind (rm 12 u 0 0 z) fun p9 => some (i, p9.2)) = some (x2, z2) ∧ MI m0 z2 ∧ NF z2 k2 pl := by
      intro z k2 pl u i h1 h2
      obtain ⟨x, z1, g1, g2, g3⟩ := hnB u m0 z k2 pl h1 h2
      rw [show rm 12 u 0 0 z = _ from g1, bs_some]
      exact ⟨_, _, rfl, g2, g3⟩
    have nf2 : ∀ (z : md_S) (k2 pl : Nat) (u i x : Int32), MI m0 z → NF z k2 pl → ∃ x2 z2, (Option.bind (f_X12_gets n z i x) fun p7 => Option.bind (f_X12_sign n p7.2 (58 : Int32)) fun p8 => Option.bind (rm 12 u 0 0 p8.2) fun p9 => some (i, p9.2)) = some (x2, z2) ∧ MI m0 z2 ∧ NF z2 k2 pl := by
      intro z k2 pl u i x h1 h2
      rw [nf_gets h2, bs_some]
      dsimp only
      rw [nf_sign h2, bs_some]
      exact nf1 z k2 pl u i h1 h2
    have nf3 : ∀ (z : md_S) (k2 pl : Nat) (u i : Int32), MI m0 z → NF z k2 pl → ∃ x2 z2, (Option.bind (rm 1 0 0 0 z) fun p6 => Option.bind (f_X12_gets n p6.2 i (p6.1)) fun p7 => Option.bind (f_X12_sign n p7.2 (58 : Int32)) fun p8 => Option.bind (rm 12 u 0 0 p8.2) fun p9 => some (i, p9.2)) = some (x2, z2) ∧ MI m0 z2 ∧ NF z2 k2 pl := by
      intro z k2 pl u i h1 h2
      obtain ⟨x, z1, g1, g2, g3⟩ := hnx m0 z k2 pl h1 h2
      rw [show rm 1 0 0 0 z = _ from g1, bs_some]
      exact nf2 z1 k2 pl u i x g2 g3
    obtain ⟨q, hq, hcase⟩ := begin_ok (n := n) (s := 4) hC hc2 hm2 h2 hs2 (by omega) (by omega) (by omega)
    rw [hq, bs_some]
    rcases hcase with ⟨c', b', m', r1, r2, r3, r4, r5, r6⟩ | ⟨c3, m3, u, hu, hu60, r1, r2, hc3, hm3, h3, hs3, hg3, fc3, fm3, x1, x2, x3, x4, x5, x6, x7, x8, x9, x10⟩
    · have h65 : mI m' 65 = nI (mN m2 65) := by rw [md_frI r4 (by decide)]; exact hs2.now.2.2.2.2.2.2.1
      have hi9 : mN m2 65 < 900 := by have := hs2.nv.2.2.2.1; omega
      have f5 := ndm_fr m' (mN m2 65) 10 0 0
      obtain ⟨x3', z3, g1, g2, g3⟩ := nf3 (ndm m' (mN m2 65) 10 0 0) 4 (wF w) 0 (nI (mN m2 65)) (r5.fr f5 (by decide)) (r6.fr f5 (by decide) (by decide))
      have hmod : (Option.bind (f_X12_newUnit n m2 4 q (mI m2 64)) fun p3 => Option.bind (f_X12_node n p3.2 (10 : Int32) (p3.1) (0 : Int32)) fun p4 => Option.bind (f_X12_next n p4.2 ) fun p5 => Option.bind (rm 1 0 0 0 p5.2) fun p6 => Option.bind (f_X12_gets n p6.2 (p4.1) (p6.1)) fun p7 => Option.bind (f_X12_sign n p7.2 (58 : Int32)) fun p8 => Option.bind (rm 12 (p3.1) 0 0 p8.2) fun p9 => some (p4.1, p9.2)) = some (x3', z3) := by
        rw [show f_X12_newUnit n m2 4 q (mI m2 64) = _ from r3, bs_some]
        dsimp only
        rw [m_node h65 hi9, bs_some]
        dsimp only
        rw [nf_next (r6.fr f5 (by decide) (by decide)), bs_some]
        exact g1
      rw [hmod]
      refine ⟨x3', z3, rfl, g2, Or.inr (Or.inr ⟨c', b', 4, wF w, ?_, r2.tx hc2, g3⟩)⟩
      rw [show f_X4_openUnit n c2 b 4 = _ from r1, bs_some]
      exact ck_inr rfl (ble.refl _)
    · have hu2 : mN m2 35 = mN m 35 := mN_fr fm2 (by decide)
      have hum : u = mN m 35 := by omega
      have hg3' : GR c c3 m m3 := GR.tr hs hg2 hg3
      have n64 := hg2.n64
      have e62 : mN m3 62 = mN m2 62 := mN_fr fm3 (by decide)
      have e65 : mN m3 65 = mN m2 65 := mN_fr fm3 (by decide)
      obtain ⟨i, lc0, hi, n1, hbn⟩ := BN.new (n := n) (t := 10) (x := nI u) (y := 0) hs hs3 hg3' (by omega) (by omega) (by rw [← n64, x6, cd_frI fc2 (by decide) (by decide)]) (by
        have hne : 17 + 3 * mN m 64 ∉ [17 + 3 * u] := by
          have := hs.now.1
          simp; omega
        rw [rL_fr fc3 hne, rL_fr fc2 (by simp)]) (by rw [e65, mN_fr fm2 (by decide)])
      obtain ⟨m4, hm4'⟩ : ∃ z, z = ndm m3 i 10 (nI u) 0 := ⟨_, rfl⟩
      rw [← hm4'] at n1 hbn
      have f4 : md_fr [65, 66, 67, 68, 69, 70, 71, 72] m3 m4 := by rw [hm4']; exact ndm_fr _ _ _ _ _
      have hclass : f_X4_openUnit n c2 b 4 = some (Sum.inl (u, c3, b)) := r1
      rw [hclass, bs_some, show f_X12_newUnit n m2 4 q (mI m2 64) = _ from r2, bs_some]
      refine out_ck ?_
      dsimp only [Sum.elim]
      rw [n1, bs_some]
      dsimp only
      have hX4 : LX B N c3 m4 w L := h3.fr (cd_fr_refl _ [] []) f4 (by decide) (by decide) (by decide)
      obtain ⟨c5, m5, a1, a2, a3, a4, ⟨w5, L5, hL5, a5⟩, a6⟩ := adv_ok (n := n) hn hX4 (by rw [hkw]; decide)
      rw [a1, bs_some, a2, bs_some]
      dsimp only
      have hc5 : CI C c0 b c5 b := hc3.fr a3 (by decide)
      have hm5 : MI m0 m5 := (hm3.fr f4 (by decide)).fr a4 (by decide)
      have cn0 : cN c 66 = mN m 35 := hs.nv.2.2.2.2.2.1
      rcases a5 with hX5 | ⟨hbw, hnf⟩
      · have hbn5 := hbn.adv hs a3 a4 (a6 hX5.fine)
        refine out_seq (hx c0 m0 c5 m5 b w5 L5 (u :: O) mc (k + 6 + 15) kl hc5 hm5 hX5 (hbn5.1.debt (by omega) (by omega) (Nat.le_refl _)) (hbn5.2.1.n63.trans h63) hkl) ?_ ?_ (fun x z k2 pl h1 h2 => nf2 z k2 pl (nI u) (nI i) x h1 h2)
        · intro v6 c6 b6 x6' m6 hc6 hm6 hE6
          dsimp only
          obtain ⟨rr, es1, l1, nn1, m7, g1, hbn7, g3, hkp7, w7, L7, hX7, hl7⟩ := hbn5.read hn hs hE6 (by omega) (fun _ => by omega)
          rw [g1, bs_some]
          dsimp only
          refine out_seq (pass_out (s := 58) (sk := 58) hC hn hc6.here (hm6.fr g3 (by decide)) hX7 sg58 (by decide)) ?_ ?_ (fun _ z k2 pl h1 h2 => nf1 z k2 pl (nI u) (nI i) h1 h2)
          · rintro v8 c8 b8 x8' m8 hc8 hm8 ⟨rfl, hk8, ⟨w8, L8, hL8, hX8⟩, fc8, fm8, s8⟩
            dsimp only
            have hbn8 := (hbn7.adv hs fc8 fm8 s8).debt (k2 := k + 6 + 15) (kl2 := kl + 1) (by omega) (by omega) (Nat.le_refl _)
            have hg6 := hE6.2.2.1
            have hu5 : u < mN m5 35 := by rw [mN_fr a4 (by decide), mN_fr f4 (by decide)]; omega
            obtain ⟨⟨y1, y2, y3, y4, y5, y6, y7, y8⟩, y9, y10⟩ := hg6.2.2.1 u hu5
            have now5 : mN m5 64 = mN m 64 := hbn5.2.1.n64
            have hnu : u ≠ mN m5 64 := by have := hs.now.1; omega
            obtain ⟨y11, y12, y13⟩ := y9 hnu
            have hnAN : ¬ AN m5 u (mN m5 64) := fun y => by
              have := hbn5.1.anle u y
              have := hs.now.1
              omega
            obtain ⟨y14, -⟩ := y10 hnAN
            have hnow35 : mN m 64 < mN m5 35 := by have := hs.now.1; omega
            obtain ⟨⟨-, o2, -⟩, -, -⟩ := hg6.2.2.1 (mN m 64) hnow35
            have B8 : ∀ f, f ∉ [6, 7, 8, 9, 10, 11, 12, 13, 14, 15, 70, 71, 72] → ∀ j, mA m8 f j = mA m6 f j := fun f hf j => by
              rw [md_frA fm8 (fun y => hf (by revert y; simp; omega)), md_frA g3 (fun y => hf (by revert y; simp; omega))]
            have B5 : ∀ f, f ∉ [6, 7, 8, 9, 10, 11, 12, 13, 14, 15, 65, 66, 67, 68, 69, 70, 71, 72] → ∀ j, mA m5 f j = mA m3 f j := fun f hf j => by
              rw [md_frA a4 (fun y => hf (by revert y; simp; omega)), md_frA f4 (fun y => hf (by revert y; simp; omega))]
            refine out_ret (hB c0 m0 c c8 m m8 b8 w8 L8 O mc (k + 6) kl i u k (kl + 1) lc0 lc0 l1 _ _ _ _ hc8.here hm8 hX8 hs hbn8 (by omega) ?_ ?_ ?_ ?_ ?_ ?_ ?_ (hbn8.2.1.n63.trans h63) hkl) ?_ ?_
            · have := hg6.n35
              rw [mN_fr fm8 (by decide), mN_fr g3 (by decide)]; omega
            · rw [B8 36 (by decide), y1, B5 36 (by decide), x4]; decide
            · rw [B8 40 (by decide), y4, B5 40 (by decide), x5, n64]
            · rw [B8 37 (by decide), B8 37 (by decide), y2, o2, B5 37 (by decide), B5 37 (by decide), x10, n64]
            · rw [B8 44 (by decide), y14, B5 44 (by decide), x3]
            · rw [cd_frI fc8 (by decide) (by decide), y13, cd_frI a3 (by decide) (by decide), x2]
            · rw [rL_fr fc8 (by simp), y12, rL_fr a3 (by simp), x1]
            · rintro v9 c9 b9 x9' m9 ⟨hbn9, hu9, h13, h45, w9, L9, hX9, hl9⟩
              have hun : ∀ q, 1000 + q ∈ [] ++ nn1 → q ≠ u := fun q hq y => (hbn8.2.2.1.2.2.2.2.2.2.1 q (by simp at hq ⊢; exact Or.inr hq)).2.2 (by rw [y]; simp)
              refine (hbn9.debt (Nat.le_refl _) (by omega) (show k ≤ k + 6 by omega)).finU (Or.inr ⟨rfl, by simp, (by simp; exact h45.2.1.mpr (by rw [B8 36 (by decide), y1, B5 36 (by decide), x4]; rfl)), h45.2.2 (Or.inr (Or.inr (by rw [B8 36 (by decide), y1, B5 36 (by decide), x4]; rfl)))⟩) hX9 ?_ hu9 (by omega) (by rw [hum]; exact hs.fresh) hun h13 h45.1 (by simp)
              rw [hL5]; rw [hL8] at hl7; simp at hl7 ⊢; omega
            · rintro c9 b9 ⟨hcs9, hle9⟩
              refine ⟨hcs9.less (by omega), ?_⟩
              have := hbn8.1.nv.2.2.2.2.2.1
              have := hbn8.2.1.n35
              omega
          · rintro v8 c8 b8 pl hc8 hbw ⟨rfl, fc8⟩
            dsimp only
            rw [bs_some]
            have fcP : cd_fr [136] [] c8 (cSP c8 136 0 (u + 1)) := cd_fr_SP (cd_fr_refl _ _ _) (by decide) _ _
            exact op_seq (Pn1 := fun _ _ => False) (hbx c0 _ b8 pl (hc8.here.fr fcP (by decide)) ⟨by rw [cI_SP]; exact hbw.1, by rw [cI_SP]; exact hbw.2⟩) (fun _ _ _ _ _ y => y.elim)
        · rintro v6 c6 b6 pl hc6 hbw ⟨hcs, hle⟩
          dsimp only
          exact op_seq (Pn1 := fun _ _ => False) (pass_bw hC hc6.here hbw (by decide)) (fun _ _ _ _ _ y => y.elim)
      · obtain ⟨x3', z3, g1, g2, g3⟩ := nf3 m5 1 (wF w5) (nI u) (nI i) hm5 hnf
        refine ⟨x3', z3, g1, g2, Or.inr (Or.inl ⟨wF w5, ?_, g3⟩)⟩
        exact op_seq (Pn1 := fun _ _ => False) (hbx c0 c5 b (wF w5) hc5 hbw) (fun _ _ _ _ _ y => y.elim)
