/-! a unit is begun, in step -/
theorem opC_fr (c : cd_S) (u : Nat) (s q p d at' : Int32) : cd_fr [66, 288, 289, 290, 291, 292, 293, 294, 295, 296, 297, 298, 299, 301, 302] [17 + 3 * u] c (opC c u s q p d at') := by
  unfold opC opD
  refine cd_fr_SI (cd_fr_SI (cd_fr_SI (cd_fr_SZ ?_ (by simp) _) (by decide) (by decide) _ _) (by decide) (by decide) _ _) (by decide) (by decide) _ _
  exact cd_fr_SI (cd_fr_SI (cd_fr_SI (cd_fr_SI (cd_fr_SI (cd_fr_SI (cd_fr_SI (cd_fr_SJ (cd_fr_SI (cd_fr_SI (cd_fr_SI (cd_fr_SI (cd_fr_refl _ _ _) (by decide) (by decide) _ _) (by decide) (by decide) _ _) (by decide) (by decide) _ _) (by decide) (by decide) _ _) (by decide) _ _) (by decide) (by decide) _ _) (by decide) (by decide) _ _) (by decide) (by decide) _ _) (by decide) (by decide) _ _) (by decide) (by decide) _ _) (by decide) (by decide) _ _) (by decide) (by decide) _ _
theorem opC_o {c : cd_S} {u : Nat} {s q p d at' : Int32} {f i : Nat} (hi : i ≠ u) (h6 : f ≠ 66) (h9 : f ≠ 193) : cI (opC c u s q p d at') f i = cI c f i := by
  unfold opC opD
  simp only [cI_SI, cI_SJ, hi, h6, h9, and_false, false_and, if_false]
theorem opC_u (c : cd_S) (u : Nat) (s q p d at' : Int32) : cI (opC c u s q p d at') 66 0 = nI (u + 1) ∧ cI (opC c u s q p d at') 288 u = nI u ∧ cI (opC c u s q p d at') 289 u = s ∧ cI (opC c u s q p d at') 290 u = q ∧ cI (opC c u s q p d at') 291 u = d ∧ cI (opC c u s q p d at') 292 u = at' ∧ cI (opC c u s q p d at') 294 u = 0 ∧ cI (opC c u s q p d at') 295 u = p ∧ cI (opC c u s q p d at') 296 u = -1 ∧ cI (opC c u s q p d at') 297 u = nI u ∧ cI (opC c u s q p d at') 298 u = 0 ∧ cI (opC c u s q p d at') 299 u = 0 ∧ cI (opC c u s q p d at') 301 u = 0 ∧ cI (opC c u s q p d at') 302 u = 0 ∧ cI (opC c u s q p d at') 193 (17 + 3 * u) = 0 := by
  unfold opC opD
  refine ⟨?_, ?_, ?_, ?_, ?_, ?_, ?_, ?_, ?_, ?_, ?_, ?_, ?_, ?_, ?_⟩ <;> simp [cI_SI, cI_SJ]
theorem opM_fr (m : md_S) (u : Nat) (s p q : Int32) : md_fr [35, 36, 37, 38, 39, 40, 42, 43, 44, 46, 55] m (opM m u s p q) := by
  unfold opM
  exact md_fr_SL (md_fr_SA (md_fr_SA (md_fr_SA (md_fr_SA (md_fr_SA (md_fr_SA (md_fr_SA (md_fr_SA (md_fr_SA (md_fr_SI (md_fr_refl _ _) (by decide) _) (by decide) _ _) (by decide) _ _) (by decide) _ _) (by decide) _ _) (by decide) _ _) (by decide) _ _) (by decide) _ _) (by decide) _ _) (by decide) _ _) (by decide) _ _
theorem opM_o {m : md_S} {u : Nat} {s p q : Int32} {f i : Nat} (hi : i ≠ u) : mA (opM m u s p q) f i = mA m f i := by
  unfold opM
  simp only [mA_SL, mA_SA, mA_SI, hi, if_false, ite_self]
theorem opM_u (m : md_S) (u : Nat) (s p q : Int32) : mI (opM m u s p q) 35 = nI (u + 1) ∧ mA (opM m u s p q) 36 u = s ∧ mA (opM m u s p q) 37 u = q ∧ mA (opM m u s p q) 38 u = mI m 9 ∧ mA (opM m u s p q) 39 u = 0 ∧ mA (opM m u s p q) 40 u = p ∧ mA (opM m u s p q) 44 u = 0 ∧ mA (opM m u s p q) 46 u = 0 ∧ mA (opM m u s p q) 42 u = -1 := by
  unfold opM
  refine ⟨rfl, ?_, ?_, ?_, ?_, ?_, ?_, ?_, ?_⟩ <;> simp [mA_SL, mA_SA]
theorem begin_ok {n : Nat} {C : Nat × Nat} {B : Nat → Int32} {N : Nat} {c0 c : cd_S} {m0 m : md_S} {b : cd_B} {w : WD} {L : List WD} {O : List Nat} {mc k kl s : Nat} (hC : BC C) (hc : CI C c0 b c b) (hm : MI m0 m) (h : LX B N c m w L) (hs : ST c m O mc k kl) (hs1 : 1 ≤ s) (hs4 : s ≤ 4) (hs3 : s ≠ 3) : ∃ q, mldA m 37 (mI m 64) = some q ∧
    ((∃ c' b' m', f_X4_openUnit n c b (nI s) = some (Sum.inr (c', b')) ∧ THR C c c' b b' 4 (wF w) ∧ f_X12_newUnit n m (nI s) q (mI m 64) = some (0, m') ∧ md_fr [6, 7, 8] m m' ∧ MI m0 m' ∧ NF m' 4 (wF w)) ∨
     (∃ c' m' u, u = mN m 35 ∧ u < 60 ∧ f_X4_openUnit n c b (nI s) = some (Sum.inl (u, c', b)) ∧ f_X12_newUnit n m (nI s) q (mI m 64) = some (nI u, m') ∧ CI C c0 b c' b ∧ MI m0 m' ∧ LX B N c' m' w L ∧ ST c' m' (u :: O) mc (k + 15) kl ∧ GR c c' m m' ∧ cd_fr [66, 288, 289, 290, 291, 292, 293, 294, 295, 296, 297, 298, 299, 301, 302] [17 + 3 * u] c c' ∧ md_fr [35, 36, 37, 38, 39, 40, 42, 43, 44, 46, 55] m m' ∧ rL c' (17 + 3 * u) = [] ∧ cI c' 302 u = 0 ∧ mA m' 44 u = 0 ∧ mA m' 36 u = nI s ∧ mA m' 40 u = nI (mN m 64) ∧ cI c' 302 (mN m 64) = cI c 302 (mN m 64) ∧ mN m' 35 = u + 1 ∧ mA m' 39 u = 0 ∧ mA m' 46 u = 0 ∧ mA m' 37 u = mA m' 37 (mN m 64))) := by
  obtain ⟨q62, q35, q50, q65, c138, c66, y62, y35, z138, z66, -⟩ := hs.nv
  have hnow := hs.now
  obtain ⟨d, d1, d2⟩ : ∃ d, d < 8 ∧ mA m 37 (mN m 64) = nI d := by
    obtain ⟨-, -, -, z, -⟩ := hs.ur _ hnow.1
    exact z
  have h137 : cI c 137 0 = nI d := hs.sc.1.2.2.trans d2
  have h288 : cI c 288 (mN m 64) = nI (mN m 64) := by
    obtain ⟨⟨x1, x2, x3, x4, x5, x6, x7, x8, x9⟩, -⟩ := hs
    exact (x9 _ (by omega)).2.2.2
  have ns : nI s ≠ 0 := fun e => by have := (nI_eq (b := 0) (by omega) (by decide)).mp e; omega
  refine ⟨nI d, by rw [hnow.2.2.2.2.1, m_ld37 hnow.2.1, d2], ?_⟩
  by_cases hu : mN m 35 = 60
  · left
    obtain ⟨c', b', e1, e2⟩ := c_room0 (n := n) hC hc.1 h.k.2.1
    obtain ⟨m', f1, f2, f3⟩ := m_failsW (n := n) (k := 4) h (by decide) (by decide)
    refine ⟨c', b', m', ?_, e2, ?_, f2, hm.fr f2 (by decide), f3⟩
    · unfold f_X4_openUnit f_X4_openUnit_J18
      rw [z66, hu, if_pos (by decide), e1]
      refine c_ck ?_ e2.2.2.2.1 e2.2.2.2.2.1
      rw [bs_some]
      exact c_ck rfl (Nat.le_refl _) (Nat.le_refl _)
    · unfold f_X12_newUnit
      rw [m_fine, bs_some, if_pos h.fine]
      dsimp only
      rw [if_neg ne10, y35, hu, if_pos (by decide), show f_X12_fails n m 4 = _ from f1, bs_some]
  · right
    have hu60 : mN m 35 < 60 := by omega
    obtain ⟨c', hc'⟩ : ∃ z, z = opC c (mN m 35) (nI s) (nI d) (nI (mN m 64)) (cAr c 101 0 d) (cI c 329 0) := ⟨_, rfl⟩
    obtain ⟨m', hm'⟩ : ∃ z, z = opM m (mN m 35) (nI s) (mI m 64) (nI d) := ⟨_, rfl⟩
    have fc := opC_fr c (mN m 35) (nI s) (nI d) (nI (mN m 64)) (cAr c 101 0 d) (cI c 329 0)
    have fm := opM_fr m (mN m 35) (nI s) (mI m 64) (nI d)
    obtain ⟨u1, u2, u3, u4, u5, u6, u7, u8, u9, u10, u11, u12, u13, u14, u15⟩ := opC_u c (mN m 35) (nI s) (nI d) (nI (mN m 64)) (cAr c 101 0 d) (cI c 329 0)
    obtain ⟨v1, v2, v3, v4, v5, v6, v7, v8, v9⟩ := opM_u m (mN m 35) (nI s) (mI m 64) (nI d)
    have oc : ∀ f, f ∈ [288, 289, 290, 291, 292, 294, 295, 296, 297, 298, 299, 301, 302] → ∀ i, i ≠ mN m 35 → cI c' f i = cI c f i := fun f hf i hi => by
      rw [hc']
      exact opC_o hi (fun y => by rw [y] at hf; exact absurd hf (by decide)) (fun y => by rw [y] at hf; exact absurd hf (by decide))
    have o43 : ∀ i, i ≠ mN m 35 → mL m' 43 i = mL m 43 i := fun i hi => by
      rw [hm']
      unfold opM
      rw [mL_SLi hi]
      simp only [mL_SA, mL_SI]
    have o293 : ∀ i, i ≠ mN m 35 → cJ c' 293 i = cJ c 293 i := fun i hi => by
      rw [hc']
      show (if 293 = 293 ∧ i = mN m 35 then (0 : Int64) else cJ c 293 i) = cJ c 293 i
      rw [if_neg (fun y => hi y.2)]
    rw [← hc'] at fc u1 u2 u3 u4 u5 u6 u7 u8 u9 u10 u11 u12 u13 u14 u15
    rw [← hm'] at fm v1 v2 v3 v4 v5 v6 v7 v8 v9
    have hz : rsz c' (17 + 3 * mN m 35) = 0 := by rw [rsz, u15]; rfl
    obtain ⟨hst, hgr⟩ := ST.begun (s := s) hs rfl hu60 hs1 hs4 fc fm oc o293 (fun f _ i hi => by rw [hm']; exact opM_o hi) o43 u1 u2 u3 (by rw [u4, h137]) (fun d' e1 e2 => by
      have : d' = d := (nI_eq (by omega) (by omega)).mp (e1.symm.trans h137)
      rw [u5, this]) (by rw [u6, v4, h.k.2.1]; exact h.mw.2.2.2.1.symm) u7 u8 u9 u10 u11 u12 u13 u14 hz v1 v2 (by rw [v3, d2]) v5 (by rw [v6]; exact hnow.2.2.2.2.1) v7 v8 v9 hs3
    refine ⟨c', m', mN m 35, rfl, hu60, ?_, ?_, ?_, hm.fr fm (by decide), ?_, hst, hgr, fc, fm, ?_, u14, v7, v2, by rw [v6]; exact hnow.2.2.2.2.1, oc 302 (by decide) _ (by omega), mN_of v1 (by omega), v5, v8, by rw [v3, hm', opM_o (by omega), d2]⟩
    · rw [hc']; exact c_openUnit1 z66 hu60 ns h137 d1 hnow.2.2.2.1 hnow.1 h288
    · rw [hm']; exact m_newUnit1 h.fine y35 hu60
    · have hB : Bd C c' b := by
        have hb := hc.1
        rw [hc']
        unfold opC opD
        exact ((((((((((((((((hb.SI (by decide) _ _).SI (by decide) _ _).SI (by decide) _ _).SI (by decide) _ _).SJ _ _ _).SI (by decide) _ _).SI (by decide) _ _).SI (by decide) _ _).SI (by decide) _ _).SI (by decide) _ _).SI (by decide) _ _).SI (by decide) _ _).cut _).SI (by decide) _ _).SI (by decide) _ _).SI (by decide) _ _)
      exact hc.fr2 hB fc (by decide) (fun k hk => by
        rw [List.mem_singleton.mp hk]
        exact List.mem_map.mpr ⟨mN m 35, List.mem_range.mpr hu60, rfl⟩)
    · exact h.frq fc fm (by decide) (fun x hx => by
        have hx : x = 0 ∨ x = 1 := by simpa using hx
        simp only [List.mem_singleton]
        omega) (by decide) (h.pc.beg rfl fm (fun f _ i hi => by rw [hm']; exact opM_o hi) (mN_of v1 (by omega)) v7 (fun i hi h0 => hs.parl hi h0)) (h.p7.beg rfl (mN_of v1 (by omega)) (fun i hi => by rw [hm']; exact opM_o hi) v8)
    · unfold rL
      rw [hz]; rfl
