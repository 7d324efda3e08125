/-! new, in step -/
theorem EOk.len {pw : Nat} {B : Nat → Int32} {N : Nat} {c c' : cd_S} {m m' : md_S} {O : List Nat} {mc k kl : Nat} {L L1 : List WD} {v x : Int32} {b' : cd_B} (h : EOk pw B N c m O mc k kl L1 v c' b' x m') (hl : L1.length ≤ L.length) : EOk pw B N c m O mc k kl L v c' b' x m' := by
  obtain ⟨⟨w', L', hX, hl'⟩, r⟩ := h
  exact ⟨⟨w', L', hX, by omega⟩, r⟩
theorem new_ok {n : Nat} {C : Nat × Nat} {B : Nat → Int32} {N : Nat} {dm kd : Nat} (hC : BC C) (hn : 5000 ≤ n) (hkd : kd ≤ 30) : EXw C B N (fun k => k = 223) (fun c b => f_X4_readNew n c b) (fun m => f_X12_newAtom n m) dm kd 3 := by
  intro c0 m0 c m b w L O mc k kl hc hm h hkw hs h63 hkl
  dsimp only at hkw ⊢
  unfold f_X4_readNew f_X12_newAtom
  refine out_ck ?_
  rcases part_st (n := n) hC hc hm h hs with ⟨c', b', m', e1, e2, e3, e4, e5⟩ | ⟨c2, m2, e1, e2, hc2, hm2, h2, hs2, hg2, hp2, hb2, fc2, fm2⟩
  · refine out_thr e1 e3 hc (ble.refl _) (x := 0) (m' := m') ?_ e4 e5
    rw [e2, bs_some]
    rfl
  · refine out_c e1 ?_
    dsimp only
    rw [e2, bs_some]
    dsimp only
    rw [if_neg ne10]
    obtain ⟨c3, m3, a1, a2, a3, a4, ⟨w3, L3, hL3, a5⟩, a6⟩ := adv_ok (n := n) hn h2 (by rw [hkw]; decide)
    rw [a1, bs_some, a2, bs_some]
    dsimp only
    have hc3 : CI C c0 b c3 b := hc2.fr a3 (by decide)
    have hm3 : MI m0 m3 := hm2.fr a4 (by decide)
    rcases a5 with hX3 | ⟨hbw, hnf⟩
    · have hs3 := hs2.adv a3 a4
      have hg3 : GR c c3 m m3 := GR.tr hs hg2 (GR.adv a3 a4 hs2.nv.2.1 (a6 hX3.fine))
      rcases m_isName (n := n) hX3 with ⟨hk, hm1⟩ | ⟨hk, m4, hm1, hf1, hn1⟩
      · refine out_c (c_needName1 (hX3.k.1.trans hk)) ?_
        rw [hm1, bs_some]
        dsimp only
        rw [if_neg ne10, hX3.k.2.2]
        have hmd : MDR c3 m3 (mc % 16) := by
          obtain ⟨-, -, -, -, -, -, -, -, -, -, z, -⟩ := hs3
          exact z.1
        rcases mod_ok (n := n) hn hmd (hX3.mw.2.2.2.2.2.1 hk) with ⟨x, x1, x2, x3⟩ | ⟨x2, x3⟩
        · rw [x2, bs_some, x3, bs_some]
          dsimp only
          rw [if_neg (show ¬ nI x = -1 from nI_m1 (by have := hmd.1; omega)), if_neg (show ¬ nI x = -1 from nI_m1 (by have := hmd.1; omega))]
          have key := leaf_ok (n := n) (t := 4) (x := nI x) (y := 0) (k := k) (L := L3) hC hn hc3 hm3 hX3 (by rw [hk]; decide) hs hs3 hg3 (by rw [mN_fr a4 (by decide)]; exact hp2) (by rw [mN_fr a4 (by decide), mN_fr a4 (by decide)]; exact hb2) (by rw [cd_frI a3 (by decide) (by decide), cd_frI fc2 (by decide) (by decide)]) (by rw [rL_fr a3 (by simp), rL_fr fc2 (by simp)]) (by rw [mN_fr a4 (by decide), mN_fr fm2 (by decide)]) (by decide) (fun q hq i q1 q2 q3 => Or.inr (Or.inr (Or.inr (Or.inl ⟨q1, rfl, ⟨x, q2, by have := hmd.1; omega, by
            have e1 := mN_of hmd.2.2.1 (by have := hmd.1; omega)
            have e2 := hq.2.2.2.2.2.2.2.2.1.1
            omega⟩, q3⟩))))
          exact OUT.imp key (fun v c' b' x m' q => EOk.len q (by rw [hL3]; simp)) (fun _ _ q => q)
        · rw [x2, bs_some, x3, bs_some]
          dsimp only
          rw [if_pos rfl, if_pos rfl, hX3.k.2.1]
          obtain ⟨c', b', e1, e2⟩ := c_refuse (n := n) (k := 3) (pl := wF w3) hC hc3.1
          obtain ⟨m', f1, f2, f3⟩ := m_failsW (n := n) (k := 3) hX3 (by decide) (by decide)
          refine out_thr (show f_X4_refuse n c3 b 3 (nI (wF w3)) = _ from e1) e2 hc3 (ble.refl _) (x := 0) (m' := m') ?_ (hm3.fr f2 (by decide)) f3
          rw [show f_X12_fails n m3 3 = _ from f1, bs_some]
      · obtain ⟨c', b', e1, e2⟩ := c_needName0 (n := n) hC hc3.1 hX3.k.2.1 (by rw [hX3.k.1]; exact hk)
        refine out_thr e1 e2 hc3 (ble.refl _) (x := 0) (m' := m4) ?_ (hm3.fr hf1 (by decide)) hn1
        rw [hm1, bs_some]
        rfl
    · obtain ⟨c', b', e1, e2⟩ := c_needName0 (n := n) hC hc3.1 hbw.2 (by rw [hbw.1]; decide)
      refine ⟨0, m3, by rw [nf_isName hnf, bs_some]; rfl, hm3, Or.inr (Or.inl ⟨wF w3, ?_, hnf⟩)⟩
      exact op_thr e1 e2 hc3 (ble.refl _)
theorem nf_new {n : Nat} : NFX (fun m => f_X12_newAtom n m) := by
  intro m0 m k pl hm h
  dsimp only
  obtain ⟨m', e1, e2, e3⟩ := nf_part (n := n) h
  unfold f_X12_newAtom
  rw [e1, bs_some]
  exact ⟨0, m', rfl, hm.fr e2 (by decide), e3⟩
