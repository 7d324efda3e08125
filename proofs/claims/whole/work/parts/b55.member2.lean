/-! members, whole -/
theorem sg256 : ∀ k, k ∈ vks → ((mWd k = 5 ∧ mVl k = 256) ↔ k = 200) := by decide
def ARG (C : Nat × Nat) (B : Nat → Int32) (N : Nat) (fc : cd_S → cd_B → Option Th) (fm : Int32 → md_S → Option (Int32 × md_S)) (dm kd : Nat) : Prop :=
  ∀ (c0 c c1 : cd_S) (m0 m m1 : md_S) (b : cd_B) (w : WD) (L : List WD) (O : List Nat) (mc k kl k0 kl0 i l1 : Nat) (t x y : Int32) (lc0 l0 : Nat) (ch : List Nat) (ess : List (List EN)) (ns : List Nat) (pre : List EN), ST c m O mc k0 kl0 → mI m 63 = nI dm → kl ≤ kd → CI C c0 b c1 b → MI m0 m1 → LX B N c1 m1 w L → wK w = 40 → BN c c1 m m1 O mc k kl i t x y lc0 l0 l1 ch ess ns pre → OUT C c0 m0 b (fc c1 b) (fm (nI i) m1) (AOk B N c m O mc k kl i t x y lc0 l0 ch ess ns pre L m1) (fun c' _ => CS c' k ∧ cN c 66 ≤ cN c' 66)
theorem member_ok {n : Nat} {C : Nat × Nat} {B : Nat → Int32} {N : Nat} {rc : cd_R} {rm : md_R} {a : Int32} {dm kd : Nat} (hC : BC C) (hn : 5000 ≤ n) (hkd : kd ≤ 30) (hx : EX C B N (fun c b => rc 8 0 (a + 1) 0 c b) (fun m => rm 1 0 0 0 m) dm kd 6) (hnx : NFX (fun m => rm 1 0 0 0 m)) (hbx : BWX C (fun c b => rc 8 0 (a + 1) 0 c b)) (hA : ARG C B N (fun c b => rc 15 0 a 0 c b) (fun i m => rm 16 i 0 0 m) dm kd) (hnA : ∀ z, NFX (fun m => rm 16 z 0 0 m))
    {c0 c c1 : cd_S} {m0 m m1 : md_S} {b : cd_B} {v0 x1 : Int32} {w : WD} {L1 L : List WD} {O : List Nat} {mc k kl k0 kl0 : Nat} (hc : CI C c0 b c1 b) (hm : MI m0 m1) (hs0 : ST c m O mc k0 kl0) (h63 : mI m 63 = nI dm) (hkl : kl ≤ kd) (h : LX B N c1 m1 w L1) (hl : L1.length < L.length) (hkw : wK w = 46) (hE : EOk 3 B N c m O mc k kl L v0 c1 b x1 m1) :
    OUT C c0 m0 b (f_X4_readMember n rc c1 b a) (f_X12_dotted n rm m1 x1) (fun v c' b' x m' => MOk B N c m O mc k kl L v c' b' x m' ∧ ∃ w' L', LX B N c' m' w' L' ∧ L'.length < L1.length) (fun c' _ => CS c' k ∧ cN c 66 ≤ cN c' 66) := by
  have cn0 : cN c 66 = mN m 35 := hs0.nv.2.2.2.2.2.1
  have hs1 := hE.2.1
  have hg1 := hE.2.2.1
  unfold f_X4_readMember f_X12_dotted
  refine out_ck ?_
  rcases part_st (n := n) hC hc hm h (hs1.debt (show kl ≤ kl + 1 by omega) (by omega) (Nat.le_refl k)) with ⟨c', b', m', e1, e2, e3, e4, e5⟩ | ⟨c2, m2, e1, e2, hc2, hm2, h2, hs2, hg2, hp2, hb2, fc2, fm2⟩
  · refine out_thr e1 e3 hc (ble.refl _) (x := x1) (m' := m') ?_ e4 e5
    rw [e2, bs_some]
    rfl
  · refine out_c e1 ?_
    dsimp only
    rw [e2, bs_some]
    dsimp only
    rw [if_neg ne10]
    obtain ⟨c3, m3, a1, a2, a3, a4, ⟨w3, L3, hL3, a5⟩, a6⟩ := adv_ok (n := n) hn h2 (by rw [hkw]; decide)
    rw [a1, bs_some, a2, bs_some]
    dsimp only
    have hc3 : CI C c0 b c3 b := hc2.fr a3 (by decide)
    have hm3 : MI m0 m3 := hm2.fr a4 (by decide)
    rcases a5 with hX3 | ⟨hbw, hnf⟩
    · have hs3 := hs2.adv a3 a4
      have hg3 : GR c1 c3 m1 m3 := GR.tr hs1 hg2 (GR.adv a3 a4 hs2.nv.2.1 (a6 hX3.fine))
      rcases m_isName (n := n) hX3 with ⟨hk, hm1⟩ | ⟨hk, m4, hm1, hf1, hn1⟩
      · refine out_c (c_needName1 (hX3.k.1.trans hk)) ?_
        rw [hm1, bs_some]
        dsimp only
        rw [if_neg ne10, hX3.k.2.2]
        have hna : NAR c3 m3 := by
          obtain ⟨-, -, -, -, -, -, -, z, -⟩ := hs3
          exact z
        have hnu : NUR c3 m3 := by
          obtain ⟨-, -, -, -, -, -, z, -⟩ := hs3
          exact z
        have hlt : mN m3 60 < mN m3 62 := by
          have z1 : mN m1 60 ≤ mN m1 62 := by
            obtain ⟨-, -, -, -, -, -, -, z, -⟩ := hs1
            exact z.2.2.1
          have z2 : mN m2 60 = mN m1 60 := mN_fr fm2 (by decide)
          have z3 : mN m3 60 = mN m2 60 := mN_fr a4 (by decide)
          have z4 : mN m3 62 = mN m2 62 := mN_fr a4 (by decide)
          omega
        obtain ⟨nm, c4, m4, f1, f2, f3, f4, f5, f6, f7⟩ := nam_ok (n := n) hn hna (hX3.mw.2.2.2.2.2.1 hk) hlt hs3.nv.1
        rw [f1, bs_some, f2, bs_some]
        dsimp only
        have h62' : mN m4 62 = mN m3 62 := mN_fr f4 (by decide)
        obtain ⟨hs4, hg4⟩ := hs3.tab (cd_fr_mono f3 (by decide) (fun _ y => y)) (md_fr_mono f4 (by decide)) (hnu.to (CE.of f3 (by decide)) (ME.of f4 (by decide)) (by omega)) f5 (by rw [mN_fr f4 (by decide)]; exact Nat.le_refl _) f7
        have hX4 : LX B N c4 m4 w3 L3 := hX3.fr f3 f4 (by decide) (by decide) (by decide)
        obtain ⟨c5, m5, b1, b2, b3, b4, ⟨w5, L5, hL5, b5⟩, b6⟩ := adv_ok (n := n) hn hX4 (by rw [hk]; decide)
        rw [b1, bs_some, b2, bs_some]
        dsimp only
        have hc5 : CI C c0 b c5 b := (hc3.fr f3 (by decide)).fr b3 (by decide)
        have hm5 : MI m0 m5 := (hm3.fr f4 (by decide)).fr b4 (by decide)
        have hs5 := hs4.adv b3 b4
        have n65 : mN m5 65 = mN m2 65 := by rw [mN_fr b4 (by decide), mN_fr f4 (by decide), mN_fr a4 (by decide)]
        have n62 : mN m5 62 = mN m2 62 := by rw [mN_fr b4 (by decide), mN_fr f4 (by decide), mN_fr a4 (by decide)]
        have n60 : mN m5 60 = mN m4 60 := mN_fr b4 (by decide)
        have hll : L5.length < L.length := by rw [hL3, hL5] at hl; simp at hl; omega
        have q9 : mN m5 65 < 900 := by have := hs5.nv.2.2.2.1; omega
        have i65 : mI m5 65 = nI (mN m5 65) := hs5.now.2.2.2.2.2.2.1
        rcases b5 with hX5 | ⟨hbw, hnf⟩
        · have hg5 : GR c1 c5 m1 m5 := GR.tr hs1 (GR.tr hs1 hg3 hg4) (GR.adv b3 b4 hs4.nv.2.1 (b6 hX5.fine))
          have h302 : cI c5 302 (mN m 64) = cI c1 302 (mN m 64) := by rw [cd_frI b3 (by decide) (by decide), cd_frI f3 (by decide) (by decide), cd_frI a3 (by decide) (by decide), cd_frI fc2 (by decide) (by decide)]
          have hrL : rL c5 (17 + 3 * mN m 64) = rL c1 (17 + 3 * mN m 64) := by rw [rL_fr b3 (by simp), rL_fr f3 (by simp), rL_fr a3 (by simp), rL_fr fc2 (by simp)]
          have hE5 : EOk 3 B N c m O mc (k + 6) kl L v0 c5 b x1 m5 := hE.gr hs0 hs5 hg5 hX5 hll h302 hrL (by rw [n65, mN_fr fm2 (by decide)])
          have wrap : ∀ t : Int32, t ≠ 19 → t ≠ 42 → ∃ i lc0 l1 r es ns m6 m7, i < 900 ∧ f_X12_node n m5 t (nI nm) 0 = some (nI i, m6) ∧ f_X12_gets n m6 (nI i) x1 = some (0, m7) ∧ BN c c5 m m7 O mc (k + 6) kl i t (nI nm) 0 lc0 lc0 l1 [r] [es] ns es ∧ md_fr [65, 66, 67, 68, 69, 70, 71, 72] m5 m7 := fun t ht1 ht2 => BN.wrap (n := n) (t := t) (x := nI nm) (y := 0) (kl2 := kl) hn hs0 (Nat.le_refl _) (by omega) hE5 (by omega) (fun y => y.elim (fun z => absurd z ht1) (fun z => absurd z ht2)) (by omega)
          rw [hX5.k.1, m_isSign hX5.fine hX5.mw sg256, bs_some]
          dsimp only
          by_cases k40 : wK w5 = 40
          · rw [if_pos k40, k40, if_neg (show ¬ (40 : Int32) = 200 by decide), if_pos rfl, m_isSign hX5.fine hX5.mw sg40, bs_some, if_pos k40]
            dsimp only
            rw [if_neg ne10]
            unfold f_X12_dotted_J68
            obtain ⟨i, lc0, l1, r, es, ns, m6, m7, hi9, n1, n2, hbn, f57⟩ := wrap 7 (by decide) (by decide)
            rw [n1, bs_some]
            dsimp only
            rw [n2, bs_some]
            dsimp only
            have hX7 : LX B N c5 m7 w5 L5 := hX5.fr (cd_fr_refl _ [] []) f57 (by decide) (by decide) (by decide)
            rw [if_pos rfl, m_isSign hX7.fine hX7.mw sg40, bs_some, if_pos k40]
            dsimp only
            rw [if_neg ne10]
            have hm7 : MI m0 m7 := hm5.fr f57 (by decide)
            refine out_seq (hA c0 c c5 m0 m m7 b w5 L5 O mc (k + 6) kl k0 kl0 i l1 7 (nI nm) 0 lc0 lc0 [r] [es] ns es hs0 h63 hkl hc5 hm7 hX7 k40 hbn) ?_ ?_ ?_
            · rintro v8 c8 b8 x8 m8 hc8 hm8 ⟨hkp8, w9, L9, j, l9, ch2, E, ns2, rfl, rfl, hj, hX9, hl9, hch2, hbn8⟩
              dsimp only
              obtain ⟨b9, d1, d2, d3, d4, d5, d6⟩ := BN.emit (n := n) (k := k + 5) (e1 := 7) (e2 := nI nm) (e3 := nI j) hC hc8 hbn8 hX9
              rw [d1, bs_some]
              refine out_em d2 d3 ?_
              rw [m_st69 hi9, bs_some]
              have hset := d5.set (fl := 69) (v := nI j) (Or.inr rfl)
              rw [if_neg (by decide), if_pos rfl] at hset
              have fset : md_fr [69] m8 (mSA m8 69 i (nI j)) := md_fr_SA (md_fr_refl _ _) (by decide) _ _
              obtain ⟨u1, u2, u3⟩ := cmb_op (l0 := lc0) (ess := [es] ++ E) hset.2.2.2.1 (by decide)
              refine ⟨nI i, _, rfl, hm8.fr fset (by decide), Or.inl ⟨1, _, b9, rfl, d4, ⟨?_, i, hi9, rfl, Or.inr ⟨rfl, by rw [hset.2.2.2.1]; decide⟩⟩, w9, L9, d6.fr (cd_fr_refl _ [] []) fset (by decide) (by decide) (by decide), by rw [hL3, hL5]; simp; omega⟩⟩
              refine (hset.debt (Nat.le_refl _) (by omega) (show k ≤ k + 5 by omega)).fin (d6.fr (cd_fr_refl _ [] []) fset (by decide) (by decide) (by decide)) (by omega) ?_ u3 ?_ ?_
              · rw [← hset.2.2.2.1, u2]; rfl
              · refine Or.inr (Or.inr (Or.inr (Or.inr (Or.inr (Or.inl ⟨hset.2.2.2.1, ⟨nm, hset.2.2.2.2.1, ?_⟩, j, hset.2.2.2.2.2.1, hj, by simp [hch2]⟩)))))
                have z1 : mN m7 60 = mN m5 60 := mN_fr f57 (by decide)
                have z2 : mN m7 60 ≤ mN m8 60 := hkp8.2.2.2.1
                rw [mN_fr fset (by decide)]
                omega
              · rw [u1, hset.2.2.2.2.1, hset.2.2.2.2.2.1]; simp
            · rintro v8 c8 b8 pl hc8 hbw ⟨hcs, hle⟩
              dsimp only
              obtain ⟨u, b9, u1, u2, u3, u4, u5, u6, u7⟩ := CS.em (n := n) (k := k + 5) (x := 7) (y := nI nm) (z := v8) hC hcs hc8
              rw [u2, bs_some]
              refine op_em u3 u4 ?_
              exact Or.inl ⟨1, _, b9, rfl, u5, hbw.em, u6.less (by omega), by rw [u7]; omega⟩
            · intro x8 m8 k2 pl h1 h2
              dsimp only
              rw [m_st69 hi9, bs_some]
              have fset : md_fr [69] m8 (mSA m8 69 i x8) := md_fr_SA (md_fr_refl _ _) (by decide) _ _
              exact ⟨nI i, _, rfl, h1.fr fset (by decide), h2.fr fset (by decide) (by decide)⟩
          · rw [if_neg k40]
            by_cases k2 : wK w5 = 200
            · rw [if_pos k2, if_pos k2, if_neg ne10]
              unfold f_X12_dotted_J68
              obtain ⟨i, lc0, l1, r, es, ns, m6, m7, hi9, n1, n2, hbn, f57⟩ := wrap 6 (by decide) (by decide)
              rw [n1, bs_some]
              dsimp only
              rw [n2, bs_some]
              dsimp only
              rw [if_neg ne10]
              have hX7 : LX B N c5 m7 w5 L5 := hX5.fr (cd_fr_refl _ [] []) f57 (by decide) (by decide) (by decide)
              have hm7 : MI m0 m7 := hm5.fr f57 (by decide)
              obtain ⟨c8, m8, g1, g2, g3, g4, ⟨w8, L8, hL8, g5⟩, g6⟩ := adv_ok (n := n) hn hX7 (by rw [k2]; decide)
              rw [g1, bs_some, g2, bs_some]
              dsimp only
              have hc8 : CI C c0 b c8 b := hc5.fr g3 (by decide)
              have hm8 : MI m0 m8 := hm7.fr g4 (by decide)
              rcases g5 with hX8 | ⟨hbw, hnf⟩
              · have hbn8 := hbn.adv hs0 g3 g4 (g6 hX8.fine)
                refine out_seq (hx c0 m0 c8 m8 b w8 L8 O mc (k + 6) kl hc8 hm8 hX8 (hbn8.1.debt (by omega) (by omega) (Nat.le_refl _)) (hbn8.2.1.n63.trans h63) hkl) ?_ ?_ ?_
                · intro v9 c9 b9 x9 m9 hc9 hm9 hE9
                  dsimp only
                  obtain ⟨r2, es2, l2, nn2, m10, t1, hbn10, t3, hkp10, w10, L10, hX10, hl10⟩ := hbn8.read hn hs0 hE9 (by omega) (fun _ => by omega)
                  obtain ⟨b11, d1, d2, d3, d4, d5, d6⟩ := BN.emit (n := n) (k := k + 5) (e1 := 6) (e2 := nI nm) (e3 := 0) hC hc9 hbn10 hX10
                  rw [d1, bs_some]
                  refine out_em d2 d3 ?_
                  dsimp only
                  rw [t1, bs_some]
                  obtain ⟨u1, u2, u3⟩ := cmb_op (l0 := lc0) (ess := [es] ++ [es2]) d5.2.2.2.1 (by decide)
                  refine ⟨nI i, m10, rfl, hm9.fr t3 (by decide), Or.inl ⟨0, _, b11, rfl, d4, ⟨?_, i, hi9, rfl, Or.inl ⟨rfl, d5.2.2.2.1⟩⟩, w10, L10, d6, by rw [hL3, hL5, hL8]; simp; omega⟩⟩
                  refine (d5.debt (Nat.le_refl _) (by omega) (show k ≤ k + 5 by omega)).fin d6 ?_ ?_ u3 ?_ ?_
                  · rw [hL8] at hll; simp at hll; omega
                  · rw [← d5.2.2.2.1, u2]; rfl
                  · refine Or.inr (Or.inr (Or.inr (Or.inr (Or.inl ⟨Or.inr ⟨d5.2.2.2.1, rfl⟩, ⟨nm, d5.2.2.2.2.1, ?_⟩, d5.2.2.2.2.2.1⟩))))
                    have z1 : mN m7 60 = mN m5 60 := mN_fr f57 (by decide)
                    have z2 : mN m8 60 = mN m7 60 := mN_fr g4 (by decide)
                    have z3 : mN m8 60 ≤ mN m10 60 := hkp10.2.2.2.1
                    omega
                  · rw [u1, d5.2.2.2.2.1, d5.2.2.2.2.2.1]; simp
                · rintro v9 c9 b9 pl hc9 hbw ⟨hcs, hle⟩
                  dsimp only
                  obtain ⟨u, b11, u1, u2, u3, u4, u5, u6, u7⟩ := CS.em (n := n) (k := k + 5) (x := 6) (y := nI nm) (z := 0) hC hcs hc9
                  rw [u2, bs_some]
                  refine op_em u3 u4 ?_
                  refine Or.inl ⟨0, _, b11, rfl, u5, hbw.em, u6.less (by omega), ?_⟩
                  have := hbn8.1.nv.2.2.2.2.2.1
                  have := hbn8.2.1.n35
                  rw [u7]; omega
                · intro x9 m9 k2' pl h1 h2
                  dsimp only
                  rw [nf_gets h2, bs_some]
                  exact ⟨nI i, m9, rfl, h1, h2⟩
              · obtain ⟨x9, m9, y1, y2, y3⟩ := hnx m0 m8 1 (wF w8) hm8 hnf
                refine ⟨nI i, m9, ?_, y2, Or.inr (Or.inl ⟨wF w8, ?_, y3⟩)⟩
                · rw [show rm 1 0 0 0 m8 = _ from y1, bs_some]
                  dsimp only
                  rw [nf_gets y3, bs_some]
                · exact op_seq (Pn1 := fun _ _ => False) (hbx c0 c8 b (wF w8) hc8 hbw) (fun _ _ _ _ _ y => y.elim)
            · rw [if_neg k2, if_neg k2, if_pos rfl, m_isSign hX5.fine hX5.mw sg40, bs_some, if_neg k40]
              dsimp only
              rw [if_pos rfl]
              unfold f_X12_dotted_J68
              obtain ⟨i, lc0, l1, r, es, ns, m6, m7, hi9, n1, n2, hbn, f57⟩ := wrap 5 (by decide) (by decide)
              rw [n1, bs_some]
              dsimp only
              rw [n2, bs_some]
              dsimp only
              have hX7 : LX B N c5 m7 w5 L5 := hX5.fr (cd_fr_refl _ [] []) f57 (by decide) (by decide) (by decide)
              rw [if_pos rfl, m_isSign hX7.fine hX7.mw sg40, bs_some, if_neg k40]
              dsimp only
              rw [if_pos rfl]
              obtain ⟨b11, d1, d2, d3, d4, d5, d6⟩ := BN.emit (n := n) (k := k + 5) (e1 := 5) (e2 := nI nm) (e3 := 0) hC hc5 hbn hX7
              rw [d1, bs_some]
              refine out_em d2 d3 ?_
              obtain ⟨u1, u2, u3⟩ := cmb_op (l0 := lc0) (ess := [es]) d5.2.2.2.1 (by decide)
              refine ⟨nI i, m7, rfl, hm5.fr f57 (by decide), Or.inl ⟨1, _, b11, rfl, d4, ⟨?_, i, hi9, rfl, Or.inr ⟨rfl, by rw [d5.2.2.2.1]; decide⟩⟩, w5, L5, d6, by rw [hL3, hL5]; simp; omega⟩⟩
              refine (d5.debt (Nat.le_refl _) (by omega) (show k ≤ k + 5 by omega)).fin d6 hll ?_ u3 ?_ ?_
              · rw [← d5.2.2.2.1, u2]; rfl
              · refine Or.inr (Or.inr (Or.inr (Or.inr (Or.inl ⟨Or.inl ⟨d5.2.2.2.1, rfl⟩, ⟨nm, d5.2.2.2.2.1, ?_⟩, d5.2.2.2.2.2.1⟩))))
                have z1 : mN m7 60 = mN m5 60 := mN_fr f57 (by decide)
                omega
              · rw [u1, d5.2.2.2.2.1, d5.2.2.2.2.2.1]; simp
        · rw [hbw.1, if_neg (show ¬ (1 : Int32) = 40 by decide), if_neg (show ¬ (1 : Int32) = 200 by decide), nf_isSign hnf, bs_some]
          dsimp only
          rw [if_pos rfl, nf_isSign hnf, bs_some]
          dsimp only
          rw [if_pos rfl]
          unfold f_X12_dotted_J68
          rw [m_node i65 q9, bs_some]
          dsimp only
          have fn := ndm_fr m5 (mN m5 65) 5 (nI nm) 0
          have hnf' := hnf.fr fn (by decide) (by decide)
          rw [nf_gets hnf', bs_some]
          dsimp only
          rw [if_pos rfl, nf_isSign hnf', bs_some]
          dsimp only
          rw [if_pos rfl]
          obtain ⟨u, b9, u1, u2, u3, u4, u5, u6, u7⟩ := CS.em (n := n) (k := k + 5) (x := 5) (y := nI nm) (z := 0) hC hs5.1 hc5
          refine ⟨_, _, rfl, hm5.fr fn (by decide), Or.inr (Or.inl ⟨wF w5, ?_, hnf'⟩)⟩
          rw [u2, bs_some]
          refine op_em u3 u4 ?_
          refine Or.inl ⟨1, _, b9, rfl, u5, hbw.em, u6.less (by omega), ?_⟩
          have z1 := hs5.nv.2.2.2.2.2.1
          have z2 : mN m5 35 = mN m1 35 := by rw [mN_fr b4 (by decide), mN_fr f4 (by decide), mN_fr a4 (by decide), mN_fr fm2 (by decide)]
          have z3 := hg1.n35
          rw [u7]; omega
      · obtain ⟨c', b', e1, e2⟩ := c_needName0 (n := n) hC hc3.1 hX3.k.2.1 (by rw [hX3.k.1]; exact hk)
        refine out_thr e1 e2 hc3 (ble.refl _) (x := x1) (m' := m4) ?_ (hm3.fr hf1 (by decide)) hn1
        rw [hm1, bs_some]
        rfl
    · obtain ⟨c', b', e1, e2⟩ := c_needName0 (n := n) hC hc3.1 hbw.2 (by rw [hbw.1]; decide)
      refine ⟨x1, m3, by rw [nf_isName hnf, bs_some]; rfl, hm3, Or.inr (Or.inl ⟨wF w3, ?_, hnf⟩)⟩
      exact op_thr e1 e2 hc3 (ble.refl _)
