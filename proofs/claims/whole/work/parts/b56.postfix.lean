/-! postfixes, in step -/
theorem sg46 : ∀ k, k ∈ vks → ((mWd k = 5 ∧ mVl k = 46) ↔ k = 46) := by decide
def MEM (C : Nat × Nat) (B : Nat → Int32) (N : Nat) (fc : cd_S → cd_B → Option Th) (fm : Int32 → md_S → Option (Int32 × md_S)) (dm kd : Nat) : Prop :=
  ∀ (c0 c c1 : cd_S) (m0 m m1 : md_S) (b : cd_B) (v0 x1 : Int32) (w : WD) (L1 L : List WD) (O : List Nat) (mc k kl k0 kl0 : Nat), CI C c0 b c1 b → MI m0 m1 → ST c m O mc k0 kl0 → mI m 63 = nI dm → kl ≤ kd → LX B N c1 m1 w L1 → L1.length < L.length → wK w = 46 → EOk 3 B N c m O mc k kl L v0 c1 b x1 m1 → OUT C c0 m0 b (fc c1 b) (fm x1 m1) (fun v c' b' x m' => MOk B N c m O mc k kl L v c' b' x m' ∧ ∃ w' L', LX B N c' m' w' L' ∧ L'.length < L1.length) (fun c' _ => CS c' k ∧ cN c 66 ≤ cN c' 66)
abbrev TP : Type := cd_S × cd_B × Int32 × Int32
theorem nf_postL {n j : Nat} {rm : md_R} {m : md_S} {k pl : Nat} {x l2 : Int32} (h : NF m k pl) : f_X12_postfix_L7 n rm (j + 1) m x l2 = some (Sum.inr (m, x, l2)) := by
  rw [u_X12_postfix_L7]
  by_cases h0 : l2 = 0
  · rw [if_pos h0]
  · rw [if_neg h0, nf_isFine h, bs_some]; rfl
theorem bw_postL {n j : Nat} {rc : cd_R} {a : Int32} {c : cd_S} {b : cd_B} {pl : Nat} {l2 l3 : Int32} (h : BW c pl) : ∃ u v, f_X4_readPostfix_L9 n rc a (j + 1 + 1) c b l2 l3 = some (Sum.inr (c, b, u, v)) := by
  rw [u_X4_readPostfix_L9]
  by_cases h0 : l2 = 0
  · rw [if_pos h0]; exact ⟨_, _, rfl⟩
  · rw [if_neg h0]
    by_cases h3 : (3000 : Int32) ≤ l3
    · rw [if_pos h3]; exact ⟨_, _, rfl⟩
    · rw [if_neg h3, h.1, if_neg (show ¬ (1 : Int32) = 46 by decide), if_neg (show ¬ (1 : Int32) = 40 by decide)]
      unfold f_X4_readPostfix_J81
      rw [u_X4_readPostfix_L9, if_pos rfl]
      exact ⟨_, _, rfl⟩
theorem postL {n : Nat} {C : Nat × Nat} {B : Nat → Int32} {N : Nat} {rc : cd_R} {rm : md_R} {a : Int32} {dm kd : Nat} (hC : BC C) (hn : 5000 ≤ n) (hkd : kd ≤ 30) (hM : MEM C B N (fun c b => rc 14 0 a 0 c b) (fun x m => rm 15 x 0 0 m) dm kd) (hA : ARG C B N (fun c b => rc 15 0 a 0 c b) (fun i m => rm 16 i 0 0 m) dm kd)
    {c0 c : cd_S} {m0 m : md_S} {L : List WD} {O : List Nat} {mc k kl k0 kl0 : Nat} (hs0 : ST c m O mc k0 kl0) (h63 : mI m 63 = nI dm) (hkl : kl ≤ kd) : ∀ (d j j2 i : Nat) (c1 : cd_S) (b : cd_B) (m1 : md_S) (v x : Int32) (w : WD) (L1 : List WD), L1.length ≤ d → d < j → d < j2 → i + d < 3000 → CI C c0 b c1 b → MI m0 m1 → LX B N c1 m1 w L1 → L1.length < L.length → EOk 3 B N c m O mc k kl L v c1 b x m1 →
    OUTX C c0 m0 b (fun (r : TP) => r.1) (fun (r : TP) => r.2.1) msA (f_X4_readPostfix_L9 n rc a (j + 2) c1 b 1 (nI i)) (f_X12_postfix_L7 n rm (j2 + 2) m1 x 1) (fun r y' => ∃ x' mm, y' = Sum.inr (mm, x', 0) ∧ EOk 3 B N c m O mc k kl L 0 r.1 r.2.1 x' mm) (fun r => CS r.1 k ∧ cN c 66 ≤ cN r.1 66) := by
  intro d
  induction d with
  | zero =>
    intro j j2 i c1 b m1 v x w L1 hd hj hj2 hi hc hm h hl hE
    have hL0 : L1 = [] := List.length_eq_zero_iff.mp (by omega)
    have hk0 : wK w = 0 := by
      obtain ⟨a1, a2, a3, a4, a5, a6, a7, a8, a9, a10, p, A, a11, ⟨t, rest⟩, a13⟩ := h
      rcases rest with ⟨-, z⟩ | ⟨z, -⟩
      · rcases z with z | z
        · exact z
        · have := a5.1; rw [z] at this; exact absurd this (by decide)
      · exact absurd hL0 z
    rw [u_X4_readPostfix_L9, if_neg ne10, if_neg (show ¬ (3000 : Int32) ≤ nI i from fun y => absurd ((nI_leI (a := 3000) (by decide) (by omega)).mp y) (by omega)), h.k.1, hk0, if_neg (show ¬ (0 : Int32) = 46 by decide), if_neg (show ¬ (0 : Int32) = 40 by decide)]
    unfold f_X4_readPostfix_J81
    rw [u_X4_readPostfix_L9, if_pos rfl, u_X12_postfix_L7, if_neg ne10, m_fine, bs_some, if_pos h.fine]
    dsimp only
    rw [if_neg ne10, m_isSign h.fine h.mw sg40, bs_some, hk0, if_neg (show ¬ (0 : Int32) = 40 by decide)]
    dsimp only
    rw [if_pos rfl, m_isSign h.fine h.mw sg46, bs_some, hk0, if_neg (show ¬ (0 : Int32) = 46 by decide)]
    dsimp only
    rw [if_pos rfl, u_X12_postfix_L7, if_pos rfl]
    exact ⟨_, rfl, hm, Or.inl ⟨_, rfl, hc, x, m1, rfl, hE⟩⟩
  | succ d ih =>
    intro j j2 i c1 b m1 v x w L1 hd hj hj2 hi hc hm h hl hE
    obtain ⟨j, rfl⟩ : ∃ q, j = q + 1 := ⟨j - 1, by omega⟩
    obtain ⟨j2, rfl⟩ : ∃ q, j2 = q + 1 := ⟨j2 - 1, by omega⟩
    rw [u_X4_readPostfix_L9, if_neg ne10, if_neg (show ¬ (3000 : Int32) ≤ nI i from fun y => absurd ((nI_leI (a := 3000) (by decide) (by omega)).mp y) (by omega)), h.k.1, u_X12_postfix_L7, if_neg ne10, m_fine, bs_some, if_pos h.fine]
    dsimp only
    rw [if_neg ne10, m_isSign h.fine h.mw sg40, bs_some]
    dsimp only
    unfold f_X4_readPostfix_J81
    by_cases k46 : wK w = 46
    · rw [if_pos k46, k46, if_neg (show ¬ (46 : Int32) = 40 by decide), if_pos rfl, m_isSign h.fine h.mw sg46, bs_some, if_pos k46]
      dsimp only
      rw [if_neg ne10]
      refine outx_seq (hM c0 c c1 m0 m m1 b v x w L1 L O mc k kl k0 kl0 hc hm hs0 h63 hkl h hl k46 hE) ?_ ?_ ?_
      · rintro v2 c2 b2 x2 m2 hc2 hm2 ⟨⟨hE2, p, hp9, rfl, hv⟩, w2, L2, hX2, hl2⟩
        dsimp only
        rw [m_fine, bs_some, if_pos hX2.fine]
        dsimp only
        rw [if_neg ne10, m_ld66 hp9, bs_some]
        unfold f_X12_postfix_J104 f_X12_postfix_J105
        rcases hv with ⟨rfl, h6⟩ | ⟨rfl, h6⟩
        · rw [if_pos h6, u_X4_readPostfix_L9, if_pos rfl, u_X12_postfix_L7, if_pos rfl]
          exact ⟨_, rfl, hm2, Or.inl ⟨_, rfl, hc2.here, nI p, m2, rfl, hE2⟩⟩
        · rw [if_neg h6, nI_1]
          exact ih j j2 (i + 1) c2 b2 m2 1 (nI p) w2 L2 (by omega) (by omega) (by omega) (by omega) hc2.here hm2 hX2 (by omega) hE2
      · rintro v2 c2 b2 pl hc2 hbw hcs
        dsimp only
        obtain ⟨u, v, e⟩ := bw_postL (n := n) (j := j) (rc := rc) (a := a) (b := b2) (l2 := v2) (l3 := nI i + 1) hbw
        exact Or.inl ⟨_, e, hc2.here, hbw, hcs⟩
      · intro x2 m2 k2 pl h1 h2
        dsimp only
        rw [nf_isFine h2, bs_some]
        dsimp only
        rw [if_pos rfl]
        unfold f_X12_postfix_J104 f_X12_postfix_J105
        exact ⟨_, nf_postL h2, h1, h2⟩
    · rw [if_neg k46]
      by_cases k40 : wK w = 40
      · rw [if_pos k40, if_pos k40, if_neg ne10]
        have hs1 := hE.2.1
        rcases part_st (n := n) hC hc hm h (hs1.debt (show kl ≤ kl + 1 by omega) (by omega) (Nat.le_refl k)) with ⟨c', b', m', e1, e2, e3, e4, e5⟩ | ⟨c2, m2, e1, e2, hc2, hm2, h2, hs2, hg2, hp2, hb2, fc2, fm2⟩
        · refine outx_thr (y := Sum.inl (x, m')) e1 e3 hc (ble.refl _) ?_ e4 e5
          rw [e2, bs_some]
          rfl
        · refine outx_c e1 ?_
          dsimp only
          rw [e2, bs_some]
          dsimp only
          rw [if_neg ne10]
          have hE2 : EOk 3 B N c m O mc (k + 6) kl L v c2 b x m2 := hE.gr hs0 hs2 hg2 h2 hl (cd_frI fc2 (by decide) (by decide) _) (rL_fr fc2 (by simp)) (mN_fr fm2 (by decide))
          obtain ⟨p, lc0, l1, r, es, ns, m6, m7, hp9, n1, n2, hbn, f57⟩ := BN.wrap (n := n) (t := 8) (x := 0) (y := 0) (kl2 := kl) hn hs0 (Nat.le_refl _) (by omega) hE2 (by omega) (fun y => absurd y (by decide)) hb2
          rw [n1, bs_some]
          dsimp only
          rw [n2, bs_some]
          dsimp only
          have hX7 : LX B N c2 m7 w L1 := h2.fr (cd_fr_refl _ [] []) f57 (by decide) (by decide) (by decide)
          refine outx_seq (hA c0 c c2 m0 m m7 b w L1 O mc (k + 6) kl k0 kl0 p l1 8 0 0 lc0 lc0 [r] [es] ns es hs0 h63 hkl hc2 (hm2.fr f57 (by decide)) hX7 k40 hbn) ?_ ?_ ?_
          · rintro v8 c8 b8 x8 m8 hc8 hm8 ⟨hkp8, w9, L9, jj, l9, ch2, E, ns2, rfl, rfl, hj', hX9, hl9, hch2, hbn8⟩
            dsimp only
            obtain ⟨b9, d1, d2, d3, d4, d5, d6⟩ := BN.emit (n := n) (k := k + 5) (e1 := 8) (e2 := nI jj) (e3 := 0) hC hc8 hbn8 hX9
            rw [d1, bs_some]
            refine outx_em d2 d3 ?_
            dsimp only
            rw [m_st68 hp9, bs_some, nI_1]
            have hset := d5.set (fl := 68) (v := nI jj) (Or.inl rfl)
            rw [if_pos rfl, if_neg (by decide)] at hset
            have fset : md_fr [68] m8 (mSA m8 68 p (nI jj)) := md_fr_SA (md_fr_refl _ _) (by decide) _ _
            obtain ⟨u1, u2, u3⟩ := cmb_op (l0 := lc0) (ess := [es] ++ E) hset.2.2.2.1 (by decide)
            have hXs := d6.fr (cd_fr_refl _ [] []) fset (by decide) (by decide) (by decide)
            refine ih j j2 (i + 1) _ b9 _ 0 (nI p) w9 L9 (by omega) (by omega) (by omega) (by omega) d4 (hm8.fr fset (by decide)) hXs (by omega) ?_
            refine (hset.debt (Nat.le_refl _) (by omega) (show k ≤ k + 5 by omega)).fin hXs (by omega) ?_ u3 ?_ ?_
            · rw [← hset.2.2.2.1, u2]; rfl
            · exact Or.inr (Or.inr (Or.inr (Or.inr (Or.inr (Or.inr (Or.inl ⟨hset.2.2.2.1, hset.2.2.2.2.2.1, jj, hset.2.2.2.2.1, hj', by simp [hch2]⟩))))))
            · rw [u1, hset.2.2.2.2.1, hset.2.2.2.2.2.1]; simp
          · rintro v8 c8 b8 pl hc8 hbw ⟨hcs, hle⟩
            dsimp only
            obtain ⟨u, b9, u1, u2, u3, u4, u5, u6, u7⟩ := CS.em (n := n) (k := k + 5) (x := 8) (y := v8) (z := 0) hC hcs hc8
            rw [u2, bs_some]
            refine opx_em u3 u4 ?_
            dsimp only
            obtain ⟨y1, y2, e⟩ := bw_postL (n := n) (j := j) (rc := rc) (a := a) (b := b9) (l2 := 1) (l3 := nI i + 1) hbw.em
            exact Or.inl ⟨_, e, u5, hbw.em, u6.less (by omega), by rw [u7]; omega⟩
          · intro x8 m8 k2 pl h1 h2
            dsimp only
            rw [m_st68 hp9, bs_some]
            have fset : md_fr [68] m8 (mSA m8 68 p x8) := md_fr_SA (md_fr_refl _ _) (by decide) _ _
            exact ⟨_, nf_postL (h2.fr fset (by decide) (by decide)), h1.fr fset (by decide), h2.fr fset (by decide) (by decide)⟩
      · rw [if_neg k40, if_neg k40, if_pos rfl, m_isSign h.fine h.mw sg46, bs_some, if_neg k46]
        dsimp only
        rw [if_pos rfl, u_X4_readPostfix_L9, if_pos rfl, u_X12_postfix_L7, if_pos rfl]
        exact ⟨_, rfl, hm, Or.inl ⟨_, rfl, hc, x, m1, rfl, hE⟩⟩
