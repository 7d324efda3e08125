/-! the name of a let or a catch -/
theorem name_ok {n : Nat} {C : Nat × Nat} {B : Nat → Int32} {N : Nat} {c0 c cb cA : cd_S} {m0 m mb mA' : md_S} {b : cd_B} {w : WD} {L : List WD} {O : List Nat} {mc mc2 k kl kl2 k0 kl0 i q : Nat} {t x y : Int32} {lc0 l0 l1 : Nat} {ch : List Nat} {ess : List (List EN)} {ns : List Nat} {pre : List EN} (hC : BC C) (hn : 5000 ≤ n) (hc : CI C c0 b cA b) (hm : MI m0 mA') (h : LX B N cA mA' w L) (hs0 : ST c m O mc2 k0 kl0) (hbn : BN c cb m mb O mc k kl i t x y lc0 l0 l1 ch ess ns pre) (fc : cd_fr [298, 327, 328, 329, 330] [] cb cA) (fm : md_fr [6, 7, 8, 9, 10, 11, 12, 13, 14, 15, 46] mb mA') (h7 : mI mA' 7 = mI mb 7) (hq5 : q ≤ mN mb 50) (h298v : cI cb 298 (mN mb 64) = nI (ub mb (mN mb 64) + q)) (h298 : cI cA 298 (mN mb 64) = cI cb 298 (mN mb 64) + 1) (h298o : ∀ i, i ≠ mN mb 64 → cI cA 298 i = cI cb 298 i) (h46 : mA mA' 46 (mN mb 64) = nI (q + 1)) (h46o : ∀ i, i ≠ mN mb 64 → mA mA' 46 i = mA mb 46 i) (hkl : kl ≤ kl2) (h40 : kl2 ≤ 40) (hmc : mc2 % 16 = mc % 16) (hd : 2 * (mN mb 50 + 1) + mc2 / 16 ≤ mN mb 62 + kl2 + 8 * mN mb 35) :
    (∃ c' b' m', f_X4_needName n cA b = some (Sum.inr (c', b')) ∧ THR C cA c' b b' 1 (wF w) ∧ f_X12_binds n mA' (nI q) = some (0, m') ∧ MI m0 m' ∧ NF m' 1 (wF w)) ∨
    (f_X4_needName n cA b = some (Sum.inl (0, cA, b)) ∧ (12 : Int32) ≤ cI cA 134 0 ∧ ∃ c' b' m', f_X4_room n cA b 0 = some (Sum.inr (c', b')) ∧ THR C cA c' b b' 4 (wF w) ∧ f_X12_binds n mA' (nI q) = some (0, m') ∧ MI m0 m' ∧ NF m' 4 (wF w)) ∨
    (f_X4_needName n cA b = some (Sum.inl (0, cA, b)) ∧ ¬ (12 : Int32) ≤ cI cA 134 0 ∧ cJ cA 330 0 = wX w ∧ ∃ cB mB v w' L', f_X10_advance n cA = some (0, cB) ∧ f_X12_binds n mA' (nI q) = some (0, mB) ∧ mI mB 73 = nI v ∧ L = w' :: L' ∧ CI C c0 b cB b ∧ MI m0 mB ∧
      ((BW cB (wF w') ∧ NF mB 1 (wF w')) ∨
       (LX B N cB (mSA mB 68 i (nI v)) w' L' ∧ BN c cB m (mSA mB 68 i (nI v)) O mc2 k kl2 i t (nI v) y lc0 l0 l1 ch ess ns pre ∧ v < mN (mSA mB 68 i (nI v)) 50 ∧ mA (mSA mB 68 i (nI v)) 51 v = nI (mN m 64) ∧ kv (mSA mB 68 i (nI v)) v = nI (mN m 64 * 1024 + (ub mb (mN mb 64) + q)) ∧ NR (wX w) (mL (mSA mB 68 i (nI v)) 52 v) ∧ mN (mSA mB 68 i (nI v)) 56 < 12 ∧ (∀ j, mA (mSA mB 68 i (nI v)) 46 j = mA mA' 46 j) ∧ mN (mSA mB 68 i (nI v)) 35 = mN mA' 35))) := by
  have n64 := hbn.2.1.n64
  obtain ⟨q62, q35, q50, q65, -, -, -, -, -, -, -, q56, s56, s134⟩ := hbn.1.nv
  have hnow := hbn.1.now
  have hA56 : mI mA' 56 = nI (mN mb 56) := by rw [md_frI fm (by decide)]; exact s56
  have hA134 : cI cA 134 0 = nI (mN mb 56) := by rw [cd_frI fc (by decide) (by decide)]; exact s134
  have hA50 : mI mA' 50 = nI (mN mb 50) := by rw [md_frI fm (by decide)]; exact hnow.2.2.2.2.2.2.2
  have hA64 : mI mA' 64 = nI (mN mb 64) := by rw [md_frI fm (by decide)]; exact hnow.2.2.2.2.1
  rcases m_isName (n := n) h with ⟨hk, hm1⟩ | ⟨hk, m4, hm1, hf1, hn1⟩
  · right
    by_cases h12 : mN mb 56 = 12
    · left
      obtain ⟨c', b', e1, e2⟩ := c_room0 (n := n) hC hc.1 h.k.2.1
      obtain ⟨m', f1, f2, f3⟩ := m_failsW (n := n) (k := 4) h (by decide) (by decide)
      refine ⟨c_needName1 (h.k.1.trans hk), by rw [hA134, h12]; decide, c', b', m', e1, e2, ?_, hm.fr f2 (by decide), f3⟩
      unfold f_X12_binds
      rw [hm1, bs_some]
      dsimp only
      rw [if_neg ne10, hA56, h12, if_pos (by decide), show f_X12_fails n mA' 4 = _ from f1, bs_some]
    · right
      obtain ⟨m5, hm5⟩ : ∃ z, z = mSI (mSA (mSA (mSL (mSA (mSI mA' 50 (nI (mN mb 50 + 1))) 51 (mN mb 50) (mI mA' 64)) 52 (mN mb 50) (mJ mA' 12)) 53 (mN mb 50) (nI q)) 54 (mN mb 50) (vp_nar .boolean 1)) 73 (nI (mN mb 50)) := ⟨_, rfl⟩
      have f5 : md_fr [50, 51, 52, 53, 54, 73] mA' m5 := by
        rw [hm5]
        exact md_fr_SI (md_fr_SA (md_fr_SA (md_fr_SL (md_fr_SA (md_fr_SI (md_fr_refl _ _) (by decide) _) (by decide) _ _) (by decide) _ _) (by decide) _ _) (by decide) _ _) (by decide) _
      have eA : ∀ f i, f ∉ [6, 7, 8, 9, 10, 11, 12, 13, 14, 15, 46] → aN mA' f i = aN mb f i := fun f i hf => by rw [aN, aN, md_frA fm hf]
      have nA50 : mN mA' 50 = mN mb 50 := mN_fr fm (by decide)
      have p5 : PC m5 := h.pc.vs f5 (by decide) (fun v hv => by rw [hm5, mA_SI, mA_SAo (by decide), mA_SAo (by decide), mA_SL, mA_SAi (by omega), mA_SI]) (fun q hq x hx => by
        rw [mN_fr fm (by decide)] at hq
        rw [eA 44 _ (by decide)] at hx
        rw [eA 45 _ (by decide), nA50]
        exact hbn.1.cv q hq x hx)
      have hX5 : LX B N cA m5 w L := h.frp (cd_fr_refl _ [] []) f5 (by decide) (by decide) (by decide) p5
      obtain ⟨cB, mB, a1, a2, a3, a4, ⟨w', L', hL', a5⟩, a6⟩ := adv_ok (n := n) hn hX5 (by rw [hk]; decide)
      have g73 : mI mB 73 = nI (mN mb 50) := by rw [md_frI a4 (by decide), hm5, mI_SIe]
      refine ⟨c_needName1 (h.k.1.trans hk), ?_, h.k.2.2, cB, mB, mN mb 50, w', L', a1, ?_, g73, hL', hc.fr a3 (by decide), (hm.fr f5 (by decide)).fr a4 (by decide), ?_⟩
      · rw [hA134]
        exact fun z => absurd ((nI_leI (a := 12) (by decide) (by omega)).mp z) (by omega)
      · unfold f_X12_binds
        rw [hm1, bs_some]
        dsimp only
        rw [if_neg ne10, hA56, if_neg (show ¬ nI (mN mb 56) = 12 from fun z => h12 ((nI_eq (b := 12) (by omega) (by decide)).mp z)), m_newVar hA50 (by omega), bs_some]
        dsimp only
        rw [bs_some, ← hm5, a2, bs_some]
      · rcases a5 with hXB | a5
        · right
          have fcB : cd_fr [298, 327, 328, 329, 330] [] cb cB := cd_fr_tr fc a3 (fun k hk => ⟨hk, nin (by decide) hk⟩) (fun k hk => ⟨hk, hk⟩)
          have fmB : md_fr [6, 7, 8, 9, 10, 11, 12, 13, 14, 15, 46, 50, 51, 52, 53, 54, 73] mb mB := md_fr_tr (md_fr_tr fm f5 (L3 := [6, 7, 8, 9, 10, 11, 12, 13, 14, 15, 46, 50, 51, 52, 53, 54, 73]) (fun k hk => ⟨nin (by decide) hk, nin (by decide) hk⟩)) a4 (fun k hk => ⟨hk, nin (by decide) hk⟩)
          have mB7 : mI mB 7 = mI mb 7 := by rw [a6 hXB.fine, md_frI f5 (by decide), h7]
          have hB51 : mA mB 51 (mN mb 50) = nI (mN mb 64) := by
            rw [md_frA a4 (by decide), hm5]
            show mA (mSA (mSI mA' 50 (nI (mN mb 50 + 1))) 51 (mN mb 50) (mI mA' 64)) 51 (mN mb 50) = _
            rw [mA_SAe, hA64]
          have hB53 : mA mB 53 (mN mb 50) = nI q := by
            rw [md_frA a4 (by decide), hm5, mA_SI, mA_SAo (by decide), mA_SAe]
          have hB54 : mA mB 54 (mN mb 50) = 1 := by
            rw [md_frA a4 (by decide), hm5, mA_SI, mA_SAe]; decide
          have hB52 : mL mB 52 (mN mb 50) = mJ mA' 12 := by
            rw [md_frL a4 (by decide), hm5, mL_SI, mL_SA, mL_SA, mL_SLe]
          have ho : ∀ v, v < mN mb 50 → mA mB 51 v = mA mb 51 v ∧ mL mB 52 v = mL mb 52 v ∧ mA mB 53 v = mA mb 53 v ∧ mA mB 54 v = mA mb 54 v := by
            intro v hv
            refine ⟨?_, ?_, ?_, ?_⟩
            · rw [md_frA a4 (by decide), hm5, mA_SI, mA_SAo (by decide), mA_SAo (by decide), mA_SL, mA_SAi (by omega), mA_SI, md_frA fm (by decide)]
            · rw [md_frL a4 (by decide), hm5, mL_SI, mL_SA, mL_SA, mL_SLi (by omega), mL_SA, mL_SI, md_frL fm (by decide)]
            · rw [md_frA a4 (by decide), hm5, mA_SI, mA_SAo (by decide), mA_SAi (by omega), mA_SL, mA_SAo (by decide), mA_SI, md_frA fm (by decide)]
            · rw [md_frA a4 (by decide), hm5, mA_SI, mA_SAi (by omega), mA_SAo (by decide), mA_SL, mA_SAo (by decide), mA_SI, md_frA fm (by decide)]
          have hB50 : mI mB 50 = nI (mN mb 50 + 1) := by
            rw [md_frI a4 (by decide), hm5, mI_SIo (by decide), mI_SA, mI_SA, mI_SL, mI_SA, mI_SIe]
          have hB46 : ∀ j, mA mB 46 j = mA mA' 46 j := fun j => by
            rw [md_frA a4 (by decide), md_frA f5 (by decide)]
          obtain ⟨r1, r2, r3, r4⟩ := ST.own hbn.1 fcB fmB mB7 hq5 h298v (by rw [cd_frI a3 (by decide) (by decide)]; exact h298) (fun j hj => by rw [cd_frI a3 (by decide) (by decide)]; exact h298o j hj) (by rw [hB46]; exact h46) (fun j hj => by rw [hB46]; exact h46o j hj) hB50 ho hB51 hB53 hB54 hkl h40 hmc hd
          have hbs : BN c cb m mb O mc2 k kl2 i t x y lc0 l0 l1 ch ess ns pre := ⟨hbn.1.shift hkl h40 hmc (by omega), hbn.2⟩
          have hbB := hbs.go hs0 r1 r2 (cd_frI fcB (by decide) (by decide) _) (rL_fr fcB (by simp)) (mN_fr fmB (by decide))
          have hbS := hbB.set (fl := 68) (v := nI (mN mb 50)) (Or.inl rfl)
          rw [if_pos rfl, if_neg (by decide)] at hbS
          have ff : md_fr [68] mB (mSA mB 68 i (nI (mN mb 50))) := md_fr_SA (md_fr_refl _ _) (by decide) _ _
          refine ⟨hXB.fr (cd_fr_refl _ [] []) ff (by decide) (by decide) (by decide), hbS, ?_, ?_, ?_, ?_, ?_, fun j => by rw [md_frA ff (by decide)]; exact hB46 j, by rw [mN_fr ff (by decide), mN_fr a4 (by decide), mN_fr f5 (by decide)]⟩
          · rw [mN_fr ff (by decide), r3]; omega
          · rw [md_frA ff (by decide), hB51, n64]
          · rw [kv_ME (ME.of ff (by decide)), r4, n64]
          · rw [md_frL ff (by decide), hB52]
            exact h.mw.2.2.2.2.2.1 hk
          · rw [mN_fr ff (by decide), mN_fr fmB (by decide)]; omega
        · exact Or.inl a5
  · left
    obtain ⟨c', b', e1, e2⟩ := c_needName0 (n := n) hC hc.1 h.k.2.1 (by rw [h.k.1]; exact hk)
    refine ⟨c', b', m4, e1, e2, ?_, hm.fr hf1 (by decide), hn1⟩
    unfold f_X12_binds
    rw [hm1, bs_some]
    rfl
theorem nf_binds {n : Nat} {m : md_S} {k pl : Nat} {q : Int32} (h : NF m k pl) : f_X12_binds n m q = some (0, m) := by
  unfold f_X12_binds
  rw [nf_isName h, bs_some]
  rfl
