/-! out, fail, spawn and wait in step -/
theorem nf_J36 {n : Nat} {rm : md_R} {m0 m : md_S} {k pl : Nat} (hm : MI m0 m) (h : NF m k pl) : ∃ x m2, f_X12_prefix_J36 n rm m = some (x, m2) ∧ MI m0 m2 ∧ NF m2 k pl := by
  obtain ⟨m', e1, e2, e3⟩ := nf_part (n := n) h
  unfold f_X12_prefix_J36
  rw [e1, bs_some]
  exact ⟨0, m', rfl, hm.fr e2 (by decide), e3⟩
/-- what both have behind a part that was counted -/
theorem part_st {n : Nat} {C : Nat × Nat} {B : Nat → Int32} {N : Nat} {c0 c : cd_S} {m0 m : md_S} {b : cd_B} {w : WD} {L : List WD} {O : List Nat} {mc k kl : Nat} (hC : BC C) (hc : CI C c0 b c b) (hm : MI m0 m) (h : LX B N c m w L) (hs : ST c m O mc k (kl + 1)) :
    (∃ c' b' m', f_X4_part n c b = some (Sum.inr (c', b')) ∧ f_X12_countsPart n m = some (0, m') ∧ THR C c c' b b' 4 (wF w) ∧ MI m0 m' ∧ NF m' 4 (wF w)) ∨
    (∃ c2 m2, f_X4_part n c b = some (Sum.inl (0, c2, b)) ∧ f_X12_countsPart n m = some (1, m2) ∧ CI C c0 b c2 b ∧ MI m0 m2 ∧ LX B N c2 m2 w L ∧ ST c2 m2 O mc (k + 6) kl ∧ GR c c2 m m2 ∧ mN m 62 < mN m2 62 ∧ mN m2 65 + 1 ≤ 2 * mN m2 62 + kl ∧ cd_fr [138] [] c c2 ∧ md_fr [62] m m2) := by
  obtain ⟨q62, q35, q50, q65, -, -, y62, -, z138, -⟩ := hs.nv
  rcases part_ok (n := n) hC hc.1 h q62 z138 y62 with ⟨hp, e1, e2⟩ | ⟨c', b', m', e1, e2, e3, e4, e5⟩
  · right
    obtain ⟨hs2, hnd⟩ := hs.part hp
    have fc2 : cd_fr [138] [] c (cSI c 138 0 (nI (mN m 62 + 1))) := cd_fr_SI (cd_fr_refl _ _ _) (by decide) (by decide) _ _
    have fm2 : md_fr [62] m (mSI m 62 (nI (mN m 62 + 1))) := md_fr_SI (md_fr_refl _ _) (by decide) _
    have n62 : mN (mSI m 62 (nI (mN m 62 + 1))) 62 = mN m 62 + 1 := mN_of mI_SIe (by omega)
    have n65 : mN (mSI m 62 (nI (mN m 62 + 1))) 65 = mN m 65 := mN_fr fm2 (by decide)
    exact ⟨_, _, e1, e2, hc.fr fc2 (by decide), hm.fr fm2 (by decide), h.fr fc2 fm2 (by decide) (by decide) (by decide), hs2, GR.part q35 rfl hp, by omega, by omega, fc2, fm2⟩
  · exact Or.inl ⟨c', b', m', e1, e2, e3, hm.fr e4 (by decide), e5⟩
/-- a part, a node and a step -/
theorem head_ok {n : Nat} {C : Nat × Nat} {B : Nat → Int32} {N : Nat} {c0 c c2 : cd_S} {m0 m m2 : md_S} {b : cd_B} {w : WD} {L : List WD} {O : List Nat} {mc k kl k0 kl0 : Nat} {t x y : Int32} (hn : 5000 ≤ n) (hc : CI C c0 b c2 b) (hm : MI m0 m2) (h : LX B N c2 m2 w L) (hk : wK w ≠ 0) (hs0 : ST c m O mc k0 kl0) (hs : ST c2 m2 O mc k kl) (hg : GR c c2 m m2) (hp : mN m 62 < mN m2 62) (hb : mN m2 65 + 1 ≤ 2 * mN m2 62 + kl) (h302 : cI c2 302 (mN m 64) = cI c 302 (mN m 64)) (hL : rL c2 (17 + 3 * mN m 64) = rL c (17 + 3 * mN m 64)) (h65 : mN m2 65 = mN m 65) :
    ∃ c3 m3 m5 i lc0 w' L', f_X12_node n m2 t x y = some (nI i, m3) ∧ f_X10_advance n c2 = some (0, c3) ∧ f_X12_next n m3 = some (0, m5) ∧ i < 900 ∧ L = w' :: L' ∧ CI C c0 b c3 b ∧ MI m0 m5 ∧ CS c3 k ∧ cN c 66 ≤ cN c3 66 ∧ cd_fr [327, 328, 329, 330] [] c2 c3 ∧ md_fr [6, 7, 8, 9, 10, 11, 12, 13, 14, 15, 65, 66, 67, 68, 69, 70, 71, 72] m2 m5 ∧
      ((LX B N c3 m5 w' L' ∧ BN c c3 m m5 O mc k kl i t x y lc0 lc0 lc0 [] [] [] []) ∨ (BW c3 (wF w') ∧ NF m5 1 (wF w'))) := by
  obtain ⟨i, lc0, hi, e1, hbn⟩ := BN.new (n := n) (t := t) (x := x) (y := y) hs0 hs hg hp hb h302 hL h65
  have f3 := ndm_fr m2 i t x y
  have hX3 : LX B N c2 (ndm m2 i t x y) w L := h.fr (cd_fr_refl _ [] []) f3 (by decide) (by decide) (by decide)
  obtain ⟨c3, m5, a1, a2, a3, a4, ⟨w', L', hL', a5⟩, a6⟩ := adv_ok (n := n) hn hX3 hk
  obtain ⟨hcs3, hcn3⟩ := CS.adv hs.1 a3
  refine ⟨c3, _, m5, i, lc0, w', L', e1, a1, a2, hi, hL', hc.fr a3 (by decide), (hm.fr f3 (by decide)).fr a4 (by decide), hcs3, ?_, a3, md_fr_tr f3 a4 (fun k hk => ⟨nin (by decide) hk, nin (by decide) hk⟩), ?_⟩
  · rw [hcn3, hs.nv.2.2.2.2.2.1, hs0.nv.2.2.2.2.2.1]
    exact hg.n35
  · rcases a5 with a5 | a5
    · exact Or.inl ⟨a5, hbn.adv hs0 a3 a4 (a6 a5.fine)⟩
    · exact Or.inr a5
theorem word_ok {n : Nat} {C : Nat × Nat} {B : Nat → Int32} {N : Nat} {rc : cd_R} {rm : md_R} {a t kk : Int32} {dm kd : Nat} (hC : BC C) (hn : 5000 ≤ n) (hkd : kd ≤ 30) (ht : kk = 229 ∧ t = 21 ∨ kk = 232 ∧ t = 22 ∨ kk = 230 ∧ t = 23 ∨ kk = 231 ∧ t = 24) (hx : EX C B N (fun c b => rc 8 0 (a + 1) 0 c b) (fun m => rm 1 0 0 0 m) dm kd 6) (hnx : NFX (fun m => rm 1 0 0 0 m)) (hbx : BWX C (fun c b => rc 8 0 (a + 1) 0 c b)) : EXw C B N (fun k => k = kk) (fun c b => f_X4_readWord n rc c b t a) (fun m => f_X12_prefix_J36 n rm m) dm kd 3 := by
  intro c0 m0 c m b w L O mc k kl hc hm h hkw hs h63 hkl
  dsimp only at hkw ⊢
  have hk0 : wK w ≠ 0 := by rw [hkw]; rcases ht with ⟨rfl, -⟩ | ⟨rfl, -⟩ | ⟨rfl, -⟩ | ⟨rfl, -⟩ <;> decide
  unfold f_X4_readWord f_X12_prefix_J36
  refine out_ck ?_
  rcases part_st (n := n) hC hc hm h hs with ⟨c', b', m', e1, e2, e3, e4, e5⟩ | ⟨c2, m2, e1, e2, hc2, hm2, h2, hs2, hg2, hp2, hb2, fc2, fm2⟩
  · refine out_thr e1 e3 hc (ble.refl _) (x := 0) (m' := m') ?_ e4 e5
    rw [e2, bs_some]
    rfl
  · refine out_c e1 ?_
    dsimp only
    rw [e2, bs_some]
    dsimp only
    rw [if_neg ne10]
    obtain ⟨c3, m3, m5, i, lc0, w', L', n1, n2, n3, hi, hL', hc3, hm5, hcs3, hcn3, fc3, fm5, hcase⟩ := head_ok (n := n) (t := t) (x := 0) (y := 0) hn hc2 hm2 h2 hk0 hs hs2 hg2 hp2 hb2 (cd_frI fc2 (by decide) (by decide) _) (rL_fr fc2 (by simp)) (mN_fr fm2 (by decide))
    have hv : mI m2 11 = mVl kk := by
      rw [h2.mw.2.2.1 (Or.inl (by rw [hkw]; rcases ht with ⟨rfl, -⟩ | ⟨rfl, -⟩ | ⟨rfl, -⟩ | ⟨rfl, -⟩ <;> decide)), hkw]
    have hsel : (if mI m2 11 = (19 : Int32) then (f_X12_prefix_J90 n rm m2 21) else (if mI m2 11 = (22 : Int32) then (f_X12_prefix_J90 n rm m2 22) else (if mI m2 11 = (20 : Int32) then (f_X12_prefix_J90 n rm m2 23) else (f_X12_prefix_J90 n rm m2 24)))) = f_X12_prefix_J90 n rm m2 t := by
      rw [hv]
      rcases ht with ⟨rfl, rfl⟩ | ⟨rfl, rfl⟩ | ⟨rfl, rfl⟩ | ⟨rfl, rfl⟩ <;> rfl
    rw [hsel]
    unfold f_X12_prefix_J90
    rw [n2, bs_some, n1, bs_some]
    dsimp only
    rw [n3, bs_some]
    dsimp only
    rcases hcase with ⟨hX, hbn⟩ | ⟨hbw, hnf⟩
    · have h63' : mI m5 63 = nI dm := hbn.2.1.n63.trans h63
      refine out_seq (hx c0 m0 c3 m5 b w' L' O mc (k + 6) kl hc3 hm5 hX (hbn.1.debt (by omega) (by omega) (Nat.le_refl _)) h63' hkl) ?_ ?_ ?_
      · intro v2 c6 b6 x2 m6 hc6 hm6 hE6
        dsimp only
        obtain ⟨r2, es2, l2, nn2, m7, g1, hbn7, g3, hkp, w6, L6, hX6, hl6⟩ := hbn.read hn hs hE6 (by omega) (fun _ => by omega)
        obtain ⟨b7, d1, d2, d3, d4, d5, d6⟩ := BN.emit (n := n) (k := k + 5) (e1 := t) (e2 := 0) (e3 := 0) hC hc6 hbn7 hX6
        rw [d1, bs_some]
        refine out_em d2 d3 ?_
        dsimp only
        rw [g1, bs_some]
        have ht' : t ≠ 40 ∧ t ≠ 41 ∧ t ≠ 19 ∧ t ≠ 42 ∧ t ≠ 2 ∧ t ≠ 9 ∧ t ≠ 10 := by rcases ht with ⟨-, rfl⟩ | ⟨-, rfl⟩ | ⟨-, rfl⟩ | ⟨-, rfl⟩ <;> decide
        obtain ⟨u1, u2, u3⟩ := cmb_op (l0 := lc0) (ess := [] ++ [es2]) d5.2.2.2.1 ht'
        refine ⟨nI i, m7, rfl, hm6.fr g3 (by decide), Or.inl ⟨0, _, b7, rfl, d4, ?_⟩⟩
        refine (d5.debt (Nat.le_refl _) (by omega) (show k ≤ k + 5 by omega)).fin d6 (by rw [hL']; simp; omega) ?_ u3 ?_ ?_
        · rw [← d5.2.2.2.1, u2]; rfl
        · refine Or.inr (Or.inr (Or.inr (Or.inr (Or.inr (Or.inr (Or.inr (Or.inr (Or.inr (Or.inl ⟨?_, rfl, d5.2.2.2.2.1, d5.2.2.2.2.2.1⟩)))))))))
          rw [d5.2.2.2.1]
          rcases ht with ⟨-, rfl⟩ | ⟨-, rfl⟩ | ⟨-, rfl⟩ | ⟨-, rfl⟩ <;> decide
        · rw [u1, d5.2.2.2.2.1, d5.2.2.2.2.2.1]; simp
      · rintro v2 c6 b6 pl hc6 hbw ⟨hcs, hle⟩
        dsimp only
        obtain ⟨u, b7, u1, u2, u3, u4, u5, u6, u7⟩ := CS.em (n := n) (k := k + 5) (x := t) (y := 0) (z := 0) hC hcs hc6
        rw [u2, bs_some]
        refine op_em u3 u4 ?_
        exact Or.inl ⟨0, _, b7, rfl, u5, hbw.em, u6.less (by omega), by rw [u7]; omega⟩
      · intro x2 m6 k2 pl h1 h2
        dsimp only
        rw [nf_gets h2, bs_some]
        exact ⟨nI i, m6, rfl, h1, h2⟩
    · obtain ⟨x2, m6, g1, g2, g3⟩ := hnx m0 m5 1 (wF w') hm5 hnf
      refine ⟨nI i, m6, ?_, g2, Or.inr (Or.inl ⟨wF w', ?_, g3⟩)⟩
      · rw [show rm 1 0 0 0 m5 = _ from g1, bs_some]
        dsimp only
        rw [nf_gets g3, bs_some]
      · exact op_seq (Pn1 := fun _ _ => False) (hbx c0 c3 b (wF w') hc3 hbw) (fun _ _ _ _ _ y => y.elim)
