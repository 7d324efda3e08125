/-! openUnit for a method -/
def opF (c : cd_S) (u : Nat) (q d at' : Int32) : cd_S := cSI (cSI (cSI (cSI (cSI (cSI (cSI (cSI (cSI (cSI (cSJ (cSI (cSI (cSI (cSI c 288 u (nI u)) 289 u 0) 290 u q) 292 u at') 293 u 0) 294 u 0) 296 u (-1)) 297 u (nI u)) 298 u 1) 299 u 0) 301 u 0) 302 u 0) 193 (17 + 3 * u) 0) 291 u d) 66 0 (nI (u + 1))
def opE (c : cd_S) (u : Nat) (q d at' : Int32) : cd_S := cSI (opF c u q d at') 295 u (nI u)
theorem c_openUnit0 {n : Nat} {c : cd_S} {b : cd_B} {u d : Nat} (h : cI c 66 0 = nI u) (hu : u < 60) (hd : cI c 137 0 = nI d) (hd8 : d < 8) : f_X4_openUnit n c b 0 = some (Sum.inl (u, opE c u (nI d) (cAr c 101 0 d) (cI c 329 0), b)) := by
  unfold f_X4_openUnit f_X4_openUnit_J18 f_X4_openUnit_J60 f_X2_addUnit f_X2_addUnit_J18
  refine c_ck ?_ (Nat.le_refl _) (Nat.le_refl _)
  rw [h, if_neg (show ¬ (60 : Int32) ≤ nI u from fun y => absurd ((nI_leI (a := 60) (by decide) (by omega)).mp y) (by omega)), c_room1, bs_some]
  refine c_ck ?_ (Nat.le_refl _) (Nat.le_refl _)
  dsimp only [Sum.elim]
  rw [h, if_neg (show ¬ (60 : Int32) ≤ nI u from fun y => absurd ((nI_leI (a := 60) (by decide) (by omega)).mp y) (by omega)), c_ld65 hu, bs_some, Nat.zero_add]
  unfold f_X9_open f_X9_open_J51
  rw [bs_some, bs_some, bs_some, bs_some, bs_some, bs_some, bs_some, bs_some, if_pos rfl, bs_some, bs_some, bs_some, bs_some, bs_some, bs_some]
  dsimp only
  unfold f_X3_domainOf
  rw [hd, if_neg (show ¬ nI d < 0 from nI_nn (by omega)), if_neg (show ¬ (8 : Int32) ≤ nI d from fun y => absurd ((nI_leI (a := 8) (by decide) (by omega)).mp y) (by omega)), c_ld101 hd8, bs_some, bs_some]
  dsimp only
  rw [bs_some, bs_some, bs_some, if_pos rfl, nI_1]
  show (Option.bind (some (cSI (opF c u (nI d) (cAr c 101 0 d) (cI c 329 0)) 295 u (cI (opF c u (nI d) (cAr c 101 0 d) (cI c 329 0)) 288 u))) fun σ1 => some (Sum.inl (u, σ1, b))) = _
  have e2 : cI (opF c u (nI d) (cAr c 101 0 d) (cI c 329 0)) 288 u = nI u := by
    unfold opF
    rw [cI_SIo (by decide), cI_SIo (by decide), cI_SIo (by decide), cI_SIo (by decide), cI_SIo (by decide), cI_SIo (by decide), cI_SIo (by decide), cI_SIo (by decide), cI_SIo (by decide), cI_SIo (by decide), cI_SJ, cI_SIo (by decide), cI_SIo (by decide), cI_SIo (by decide), cI_SIe]
  rw [e2, bs_some]
  rfl
theorem opE_fr (c : cd_S) (u : Nat) (q d at' : Int32) : cd_fr [66, 288, 289, 290, 291, 292, 293, 294, 295, 296, 297, 298, 299, 301, 302] [17 + 3 * u] c (opE c u q d at') := by
  unfold opE opF
  refine cd_fr_SI (cd_fr_SI (cd_fr_SI (cd_fr_SZ ?_ (by simp) _) (by decide) (by decide) _ _) (by decide) (by decide) _ _) (by decide) (by decide) _ _
  exact cd_fr_SI (cd_fr_SI (cd_fr_SI (cd_fr_SI (cd_fr_SI (cd_fr_SI (cd_fr_SI (cd_fr_SJ (cd_fr_SI (cd_fr_SI (cd_fr_SI (cd_fr_SI (cd_fr_refl _ _ _) (by decide) (by decide) _ _) (by decide) (by decide) _ _) (by decide) (by decide) _ _) (by decide) (by decide) _ _) (by decide) _ _) (by decide) (by decide) _ _) (by decide) (by decide) _ _) (by decide) (by decide) _ _) (by decide) (by decide) _ _) (by decide) (by decide) _ _) (by decide) (by decide) _ _) (by decide) (by decide) _ _
theorem opE_o {c : cd_S} {u : Nat} {q d at' : Int32} {f i : Nat} (hi : i ≠ u) (h6 : f ≠ 66) (h9 : f ≠ 193) : cI (opE c u q d at') f i = cI c f i := by
  unfold opE opF
  simp only [cI_SI, cI_SJ, hi, h6, h9, and_false, false_and, if_false]
theorem opE_u (c : cd_S) (u : Nat) (q d at' : Int32) : cI (opE c u q d at') 66 0 = nI (u + 1) ∧ cI (opE c u q d at') 288 u = nI u ∧ cI (opE c u q d at') 289 u = 0 ∧ cI (opE c u q d at') 290 u = q ∧ cI (opE c u q d at') 291 u = d ∧ cI (opE c u q d at') 292 u = at' ∧ cI (opE c u q d at') 294 u = 0 ∧ cI (opE c u q d at') 295 u = nI u ∧ cI (opE c u q d at') 296 u = -1 ∧ cI (opE c u q d at') 297 u = nI u ∧ cI (opE c u q d at') 298 u = 1 ∧ cI (opE c u q d at') 299 u = 0 ∧ cI (opE c u q d at') 301 u = 0 ∧ cI (opE c u q d at') 302 u = 0 ∧ cI (opE c u q d at') 193 (17 + 3 * u) = 0 := by
  unfold opE opF
  refine ⟨?_, ?_, ?_, ?_, ?_, ?_, ?_, ?_, ?_, ?_, ?_, ?_, ?_, ?_, ?_⟩ <;> simp [cI_SI, cI_SJ]
/-- how the two begin a method at its name: c', m' behind it -/
theorem mbegin_ok {n : Nat} {C : Nat × Nat} {B : Nat → Int32} {N : Nat} {c0 c : cd_S} {m0 m : md_S} {b : cd_B} {w : WD} {L : List WD} {mc d : Nat} (hC : BC C) (hn : 5000 ≤ n) (hc : CI C c0 b c b) (hm : MI m0 m) (h : LX B N c m w L) (hk : wK w = 2) (hs : OST c m mc) (hd : cI c 137 0 = nI d) (hd8 : d < 8) (hdm : d < mc) :
    (∃ c' b' m', f_X4_openUnit n c b 0 = some (Sum.inr (c', b')) ∧ THR C c c' b b' 4 (wF w) ∧ f_X12_newUnit n m 0 (nI d) (-1) = some (0, m') ∧ MI m0 m' ∧ NF m' 4 (wF w)) ∨
    (∃ c1 c2 m1 m2 m3 u v w' L', u = mN m 35 ∧ u < 60 ∧ f_X4_openUnit n c b 0 = some (Sum.inl (u, c1, b)) ∧ cJ c1 330 0 = wX w ∧ f_X10_advance n (cSP (cSP c1 135 0 (u + 1)) 136 0 (u + 1)) = some (0, c2) ∧ f_X12_newUnit n m 0 (nI d) (-1) = some (nI u, m1) ∧ mI m1 6 = 0 ∧ f_X12_next n m1 = some (0, m2) ∧ mI m2 56 = 0 ∧ f_X12_newVariable n m2 (nI u) 0 0 0 = some (nI v, m3) ∧ L = w' :: L' ∧ CI C c0 b c2 b ∧ MI m0 (mSA m3 55 u (nI v)) ∧
      ((BW c2 (wF w') ∧ NF (mSA m3 55 u (nI v)) 1 (wF w')) ∨
       (LX B N c2 (mSA m3 55 u (nI v)) w' L' ∧ ST c2 (mSI (mSA m3 55 u (nI v)) 64 (nI u)) [u] (mc + 96) 15 0 ∧ cd_fr [66, 135, 136, 288, 289, 290, 291, 292, 293, 294, 295, 296, 297, 298, 299, 301, 302, 327, 328, 329, 330] [17 + 3 * u] c c2 ∧ md_fr [6, 7, 8, 9, 10, 11, 12, 13, 14, 15, 35, 36, 37, 38, 39, 40, 42, 43, 44, 46, 50, 51, 52, 53, 54, 55] m (mSA m3 55 u (nI v)) ∧ mI (mSA m3 55 u (nI v)) 7 = mI m 7 ∧ NR (wX w) (mL (mSA m3 55 u (nI v)) 43 u) ∧ (∀ i, i ≠ u → cJ c2 293 i = cJ c 293 i ∧ mL (mSA m3 55 u (nI v)) 43 i = mL m 43 i ∧ mA (mSA m3 55 u (nI v)) 36 i = mA m 36 i) ∧ mA (mSA m3 55 u (nI v)) 36 u = 0 ∧ mA (mSA m3 55 u (nI v)) 39 u = 0 ∧ mA (mSA m3 55 u (nI v)) 46 u = 0 ∧ rL c2 (17 + 3 * u) = [] ∧ cI c2 302 u = 0 ∧ mN (mSA m3 55 u (nI v)) 35 = u + 1 ∧ cI c2 292 u = nI (wF w)))) := by
  have hs0 := hs
  obtain ⟨⟨p1, p2, p3, p4, p5, p6, p7, p8, p9⟩, -, ⟨d1, d2, d3, d4, d6⟩, -⟩ := hs0
  have z66 : cI c 66 0 = nI (mN m 35) := p2.trans p7
  by_cases hu : mN m 35 = 60
  · left
    obtain ⟨c', b', e1, e2⟩ := c_room0 (n := n) hC hc.1 h.k.2.1
    obtain ⟨m', f1, f2, f3⟩ := m_failsW (n := n) (k := 4) h (by decide) (by decide)
    refine ⟨c', b', m', ?_, e2, ?_, hm.fr f2 (by decide), f3⟩
    · unfold f_X4_openUnit f_X4_openUnit_J18
      rw [z66, hu, if_pos (by decide), e1]
      refine c_ck ?_ e2.2.2.2.1 e2.2.2.2.2.1
      rw [bs_some]
      exact c_ck rfl (Nat.le_refl _) (Nat.le_refl _)
    · unfold f_X12_newUnit
      rw [m_fine, bs_some, if_pos h.fine]
      dsimp only
      rw [if_neg ne10, p7, hu, if_pos (by decide), show f_X12_fails n m 4 = _ from f1, bs_some]
  · right
    have hu60 : mN m 35 < 60 := by omega
    obtain ⟨u, hue⟩ : ∃ u, u = mN m 35 := ⟨_, rfl⟩
    rw [← hue] at hu60 z66 p7
    obtain ⟨c1, hc1⟩ : ∃ z, z = opE c u (nI d) (cAr c 101 0 d) (cI c 329 0) := ⟨_, rfl⟩
    obtain ⟨m1, hm1⟩ : ∃ z, z = opM m u 0 (-1) (nI d) := ⟨_, rfl⟩
    have fc1 : cd_fr [66, 288, 289, 290, 291, 292, 293, 294, 295, 296, 297, 298, 299, 301, 302] [17 + 3 * u] c c1 := by rw [hc1]; exact opE_fr _ _ _ _ _
    have fm1 : md_fr [35, 36, 37, 38, 39, 40, 42, 43, 44, 46, 55] m m1 := by rw [hm1]; exact opM_fr _ _ _ _ _
    obtain ⟨u1, u2, u3, u4, u5, u6, u7, u8, u9, u10, u11, u12, u13, u14, u15⟩ := opE_u c u (nI d) (cAr c 101 0 d) (cI c 329 0)
    obtain ⟨v1, v2, v3, v4, v5, v6, v7, v8, v9⟩ := opM_u m u 0 (-1) (nI d)
    rw [← hc1] at u1 u2 u3 u4 u5 u6 u7 u8 u9 u10 u11 u12 u13 u14 u15
    rw [← hm1] at v1 v2 v3 v4 v5 v6 v7 v8 v9
    obtain ⟨cp, hcp⟩ : ∃ z, z = cSP (cSP c1 135 0 (u + 1)) 136 0 (u + 1) := ⟨_, rfl⟩
    have fcp : cd_fr [135, 136] [] c1 cp := by rw [hcp]; exact cd_fr_SP (cd_fr_SP (cd_fr_refl _ _ _) (by decide) _ _) (by decide) _ _
    have hR01 : ∀ x, x ∈ [0, 1] → x ∉ [17 + 3 * u] := fun x hx => by
      have hx : x = 0 ∨ x = 1 := by simpa using hx
      simp only [List.mem_singleton]
      omega
    have hur : ∀ i, i < mN m 35 → UR c m i := by
      obtain ⟨-, -, -, z, -⟩ := hs
      exact z
    have n135 : mN m1 35 = u + 1 := mN_of v1 (by omega)
    have pc1 : PC m1 := h.pc.beg hue.symm fm1 (fun f _ i hi => by rw [hm1]; exact opM_o hi) n135 v7 (fun i hi h0 => (hur i (by omega)).parl (by omega) h0)
    have p71 : P7 (N / 2048) m1 (wF w) := h.p7.beg hue.symm n135 (fun i hi => by rw [hm1]; exact opM_o hi) v8
    have hX1 : LX B N cp m1 w L := (h.frq fc1 fm1 (by decide) hR01 (by decide) pc1 p71).fr fcp (md_fr_refl _ []) (by decide) (by decide) (by decide)
    have hX1' : LX B N c1 m1 w L := h.frq fc1 fm1 (by decide) hR01 (by decide) pc1 p71
    obtain ⟨c2, m2, a1, a2, a3, a4, ⟨w', L', hL', a5⟩, a6⟩ := adv_ok (n := n) hn hX1 (by rw [hk]; decide)
    have x50 : mI m2 50 = nI (mN m 50) := by rw [md_frI a4 (by decide), md_frI fm1 (by decide)]; exact d3
    have hv500 : mN m 50 < 500 := by omega
    obtain ⟨m3, hm3⟩ : ∃ z, z = mSA (mSA (mSL (mSA (mSI m2 50 (nI (mN m 50 + 1))) 51 (mN m 50) (nI u)) 52 (mN m 50) 0) 53 (mN m 50) 0) 54 (mN m 50) (vp_nar .boolean 0) := ⟨_, rfl⟩
    have fm3 : md_fr [50, 51, 52, 53, 54] m2 m3 := by
      rw [hm3]
      exact md_fr_SA (md_fr_SA (md_fr_SL (md_fr_SA (md_fr_SI (md_fr_refl _ _) (by decide) _) (by decide) _ _) (by decide) _ _) (by decide) _ _) (by decide) _ _
    obtain ⟨m4, hm4⟩ : ∃ z, z = mSA m3 55 u (nI (mN m 50)) := ⟨_, rfl⟩
    have fm4 : md_fr [55] m3 m4 := by rw [hm4]; exact md_fr_SA (md_fr_refl _ _) (by decide) _ _
    have hB1 : Bd C c1 b := by
      have hb := hc.1
      rw [hc1]
      unfold opE opF
      exact ((((((((((((((((hb.SI (by decide) _ _).SI (by decide) _ _).SI (by decide) _ _).SI (by decide) _ _).SJ _ _ _).SI (by decide) _ _).SI (by decide) _ _).SI (by decide) _ _).SI (by decide) _ _).SI (by decide) _ _).SI (by decide) _ _).SI (by decide) _ _).cut _).SI (by decide) _ _).SI (by decide) _ _).SI (by decide) _ _)
    have hcc1 : CI C c0 b c1 b := hc.fr2 hB1 fc1 (by decide) (fun k hk => by
      rw [List.mem_singleton.mp hk]
      exact List.mem_map.mpr ⟨u, List.mem_range.mpr hu60, rfl⟩)
    have hmm4 : MI m0 m4 := (((hm.fr fm1 (by decide)).fr a4 (by decide)).fr fm3 (by decide)).fr fm4 (by decide)
    refine ⟨c1, c2, m1, m2, m3, u, mN m 50, w', L', hue, hu60, ?_, ?_, by rw [← hcp]; exact a1, ?_, hX1'.fine, a2, ?_, ?_, hL', (hcc1.fr fcp (by decide)).fr a3 (by decide), by rw [← hm4]; exact hmm4, ?_⟩
    · rw [hc1]; exact c_openUnit0 z66 hu60 hd hd8
    · rw [cd_frJ fc1 (by decide) (by decide)]; exact h.k.2.2
    · rw [hm1]; exact m_newUnit1 h.fine p7 hu60
    · rw [md_frI a4 (by decide), md_frI fm1 (by decide)]; exact p4
    · rw [hm3]; exact m_newVar x50 hv500
    · rw [← hm4]
      rcases a5 with hX2 | ⟨hbw, hnf⟩
      · right
        have fcA : cd_fr [66, 135, 136, 288, 289, 290, 291, 292, 293, 294, 295, 296, 297, 298, 299, 301, 302, 327, 328, 329, 330] [17 + 3 * u] c c2 := cd_fr_tr (cd_fr_tr fc1 fcp (L3 := [66, 135, 136, 288, 289, 290, 291, 292, 293, 294, 295, 296, 297, 298, 299, 301, 302, 327, 328, 329, 330]) (fun k hk => ⟨nin (by decide) hk, nin (by decide) hk⟩) (fun k hk => ⟨hk, by simp⟩)) a3 (fun k hk => ⟨hk, nin (by decide) hk⟩) (fun k hk => ⟨hk, by simp⟩)
        have fmA : md_fr [6, 7, 8, 9, 10, 11, 12, 13, 14, 15, 35, 36, 37, 38, 39, 40, 42, 43, 44, 46, 50, 51, 52, 53, 54, 55] m m4 := md_fr_tr (md_fr_tr (md_fr_tr fm1 a4 (L3 := [6, 7, 8, 9, 10, 11, 12, 13, 14, 15, 35, 36, 37, 38, 39, 40, 42, 43, 44, 46, 50, 51, 52, 53, 54, 55]) (fun k hk => ⟨nin (by decide) hk, nin (by decide) hk⟩)) fm3 (fun k hk => ⟨hk, nin (by decide) hk⟩)) fm4 (fun k hk => ⟨hk, nin (by decide) hk⟩)
        have C2 : ∀ f, f ∈ [66, 288, 289, 290, 291, 292, 294, 295, 296, 297, 298, 299, 301, 302] → ∀ i, cI c2 f i = cI c1 f i := fun f hf i => by
          rw [cd_frI a3 (fun y => by revert hf y; simp; omega) (fun y => by rw [y] at hf; exact absurd hf (by decide)), cd_frI fcp (fun y => by revert hf y; simp; omega) (fun y => by rw [y] at hf; exact absurd hf (by decide))]
        have J2 : ∀ i, cJ c2 293 i = cJ c1 293 i := fun i => by rw [cd_frJ a3 (by decide) (by decide), cd_frJ fcp (by decide) (by decide)]
        have M4 : ∀ f, f ∉ [6, 7, 8, 9, 10, 11, 12, 13, 14, 15, 50, 51, 52, 53, 54, 55] → ∀ i, mA m4 f i = mA m1 f i := fun f hf i => by
          rw [md_frA fm4 (fun y => hf (by revert y; simp; omega)), md_frA fm3 (fun y => hf (by revert y; simp; omega)), md_frA a4 (fun y => hf (by revert y; simp; omega))]
        have M43 : ∀ i, mL m4 43 i = mL m1 43 i := fun i => by rw [md_frL fm4 (by decide), md_frL fm3 (by decide), md_frL a4 (by decide)]
        have o55 : ∀ i, i ≠ u → mA m4 55 i = mA m 55 i := fun i hi => by
          rw [hm4, mA_SAi hi, md_frA fm3 (by decide), md_frA a4 (by decide), hm1, opM_o hi]
        have j293u : cJ c1 293 u = 0 := by rw [hc1]; unfold opE opF; simp [cJ_SI, cJ_SJ]
        have j293o : ∀ i, i ≠ u → cJ c1 293 i = cJ c 293 i := fun i hi => by
          rw [hc1]
          show (if 293 = 293 ∧ i = u then (0 : Int64) else cJ c 293 i) = cJ c 293 i
          rw [if_neg (fun y => hi y.2)]
        have l43u : mL m1 43 u = mJ m 12 := by rw [hm1]; unfold opM; rw [mL_SLe]
        have l43o : ∀ i, i ≠ u → mL m1 43 i = mL m 43 i := fun i hi => by
          rw [hm1]
          unfold opM
          rw [mL_SLi hi]
          simp only [mL_SA, mL_SI]
        have pc3 : PC m3 := hX2.pc.vs fm3 (by decide) (fun v hv => by
          rw [mN_of x50 (by omega)] at hv
          rw [hm3, mA_SAo (by decide), mA_SAo (by decide), mA_SL, mA_SAi (by omega), mA_SI]) (fun q hq x hx => by
          rw [mN_fr a4 (by decide), n135] at hq
          rw [aN, md_frA a4 (by decide)] at hx
          rw [mN_of x50 (by omega), aN, md_frA a4 (by decide), md_frA fm1 (by decide)]
          by_cases hqu : q = u
          · rw [hqu, v7] at hx
            exact absurd hx (Nat.not_lt_zero _)
          · rw [hm1, opM_o hqu] at hx
            exact (hur q (by omega)).cvu (by omega) x hx)
        have hX4 : LX B N c2 m4 w' L' := (hX2.frp (cd_fr_refl _ [] []) fm3 (by decide) (by decide) (by decide) pc3).fr (cd_fr_refl _ [] []) fm4 (by decide) (by decide) (by decide)
        have hz : rsz c2 (17 + 3 * u) = 0 := by rw [rsz, cd_frz a3 (by simp), cd_frz fcp (by simp), u15]; rfl
        have e51 : ∀ j, mA m4 51 j = if j = mN m 50 then nI u else mA m 51 j := fun j => by
          rw [md_frA fm4 (by decide), hm3, mA_SAo (by decide), mA_SAo (by decide), mA_SL]
          by_cases hj : j = mN m 50
          · rw [hj, mA_SAe, if_pos rfl]
          · rw [mA_SAi hj, if_neg hj, mA_SI, md_frA a4 (by decide), md_frA fm1 (by decide)]
        have e53 : ∀ j, mA m4 53 j = if j = mN m 50 then 0 else mA m 53 j := fun j => by
          rw [md_frA fm4 (by decide), hm3, mA_SAo (by decide)]
          by_cases hj : j = mN m 50
          · rw [hj, mA_SAe, if_pos rfl]
          · rw [mA_SAi hj, if_neg hj, mA_SL, mA_SAo (by decide), mA_SI, md_frA a4 (by decide), md_frA fm1 (by decide)]
        have e54 : ∀ j, mA m4 54 j = if j = mN m 50 then 0 else mA m 54 j := fun j => by
          rw [md_frA fm4 (by decide), hm3]
          by_cases hj : j = mN m 50
          · rw [hj, mA_SAe, if_pos rfl]; decide
          · rw [mA_SAi hj, if_neg hj, mA_SAo (by decide), mA_SL, mA_SAo (by decide), mA_SI, md_frA a4 (by decide), md_frA fm1 (by decide)]
        have e52 : ∀ j, j ≠ mN m 50 → mL m4 52 j = mL m 52 j := fun j hj => by
          rw [md_frL fm4 (by decide), hm3, mL_SA, mL_SA, mL_SLi hj, mL_SA, mL_SI, md_frL a4 (by decide), md_frL fm1 (by decide)]
        have x35 : mI m4 35 = nI (u + 1) := by rw [md_frI fm4 (by decide), md_frI fm3 (by decide), md_frI a4 (by decide)]; exact v1
        have hst := ST.meth (c' := c2) (m' := m4) (u := u) (d := d) hs hue.symm hu60 hd hd8 hdm fcA fmA (fun f hf i hi => by
            rw [C2 f (by revert hf; revert f; decide) i, hc1]
            exact opE_o hi (fun y => by rw [y] at hf; exact absurd hf (by decide)) (fun y => by rw [y] at hf; exact absurd hf (by decide))) (fun i hi => by rw [J2]; exact j293o i hi) (fun f hf i hi => by
            by_cases h55 : f = 55
            · rw [h55]; exact o55 i hi
            · rw [M4 f (by revert hf h55; simp; omega) i, hm1]; exact opM_o hi) (fun i hi => by rw [M43]; exact l43o i hi) (by rw [C2 66 (by decide)]; exact u1) (by rw [cd_frP a3 (by decide) (by decide), hcp, cP_SPo (by decide), cP_SPe]) (by rw [cd_frP a3 (by decide) (by decide), hcp, cP_SPe]) (by rw [C2 288 (by decide)]; exact u2) (by rw [C2 289 (by decide)]; exact u3) (by rw [C2 290 (by decide)]; exact u4) (by rw [C2 291 (by decide)]; exact u5) (by rw [C2 292 (by decide), u6, M4 38 (by decide), v4, h.k.2.1]; exact h.mw.2.2.2.1.symm) (by rw [J2]; exact j293u) (by rw [C2 294 (by decide)]; exact u7) (by rw [C2 295 (by decide)]; exact u8) (by rw [C2 296 (by decide)]; exact u9) (by rw [C2 297 (by decide)]; exact u10) (by rw [C2 298 (by decide)]; exact u11) (by rw [C2 299 (by decide)]; exact u12) (by rw [C2 301 (by decide)]; exact u13) (by rw [C2 302 (by decide)]; exact u14) hz x35 (by rw [M4 36 (by decide)]; exact v2) (by rw [M4 37 (by decide)]; exact v3) (by rw [M4 39 (by decide)]; exact v5) (by rw [M4 40 (by decide)]; exact v6) (by rw [M4 44 (by decide)]; exact v7) (by rw [M4 46 (by decide)]; exact v8) (by rw [M4 42 (by decide)]; exact v9) (by rw [hm4, mA_SAe]) (by rw [md_frI fm4 (by decide), hm3, mI_SA, mI_SA, mI_SL, mI_SA, mI_SIe]) (fun v hv => ⟨by rw [e51, if_neg (by omega)], e52 v (by omega), by rw [e53, if_neg (by omega)], by rw [e54, if_neg (by omega)]⟩) (by rw [e51, if_pos rfl]) (by rw [e53, if_pos rfl]) (by rw [e54, if_pos rfl])
        refine ⟨hX4, hst, fcA, fmA, ?_, ?_, fun i hi => ⟨by rw [J2]; exact j293o i hi, by rw [M43]; exact l43o i hi, by rw [M4 36 (by decide), hm1]; exact opM_o hi⟩, by rw [M4 36 (by decide)]; exact v2, by rw [M4 39 (by decide)]; exact v5, by rw [M4 46 (by decide)]; exact v8, ?_, by rw [C2 302 (by decide)]; exact u14, mN_of x35 (by omega), by rw [C2 292 (by decide), u6]; exact h.k.2.1⟩
        · rw [md_frI fm4 (by decide), md_frI fm3 (by decide), a6 hX2.fine, md_frI fm1 (by decide)]
        · rw [M43, l43u]; exact h.mw.2.2.2.2.2.1 hk
        · unfold rL
          rw [hz]; rfl
      · exact Or.inl ⟨hbw, (hnf.fr fm3 (by decide) (by decide)).fr fm4 (by decide) (by decide)⟩
