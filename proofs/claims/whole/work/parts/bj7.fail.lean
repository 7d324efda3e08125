/-! failures: events, frames that are left -/
theorem rec_ok {n t Z : Nat} {C : Nat × Nat} {c : cd_S} {b : cd_B} {m : md_S} {a2 a3 a4 a5 : Int32} (hC : BC C) (hB : Bd C c b) (hE : EVZ c m Z) (hZ : Z + 1 < 2 ^ 31) (h231 : cI c 231 t = nI t) (hme : mI m 127 = nI t) : ∃ c' b' m', f_X1_record n c b t a2 a3 a4 a5 = some (0, c', b') ∧ f_X12_tells n m a2 a3 a4 a5 = some (0, m') ∧ Bd C c' b' ∧ ble b' b ∧ cd_fr [43] [8] c c' ∧ md_fr [91, 92] m m' ∧ EVZ c' m' (Z + 1) := by
  obtain ⟨z, z1, z2, z3, z4, z5⟩ := hE
  unfold f_X1_record f_X12_tells f_X1_record_J60 f_X12_tells_J70
  rw [z2, z3]
  by_cases q : 200 ≤ z
  · have qi : (200 : Int32) ≤ nI z := (nI_leI (a := 200) (by decide) (by omega)).mpr q
    refine ⟨cSI c 43 0 (nI (z + 1)), b, mSI m 91 (nI (z + 1)), ?_, ?_, hB.SI (by decide) _ _, ble.refl b, cd_fr_SI (cd_fr_refl _ _ _) (by simp) (by decide) _ _, md_fr_SI (md_fr_refl _ _) (by simp) _, ⟨z + 1, by omega, cI_SIe, mI_SIe, ?_, fun i hi => ?_⟩⟩
    · refine c_ck ?_ (Nat.le_refl _) (Nat.le_refl _)
      rw [if_pos qi, bs_some, nI_1]
    · rw [if_pos qi, bs_some, nI_1]
    · rw [show min (z + 1) 200 = min z 200 by omega, ← z4]; exact rsz_e (cI_SIo (by decide))
    · rw [show min (z + 1) 200 = min z 200 by omega] at hi
      exact z5 i hi
  · have qi : ¬ (200 : Int32) ≤ nI z := fun y => q ((nI_leI (a := 200) (by decide) (by omega)).mp y)
    have hmz : min z 200 = z := by omega
    rw [hmz] at z4 z5
    have hcap : rcap 8 = 1280 := by decide
    rw [if_neg qi, if_neg qi]
    obtain ⟨b1, d1, e1, f1, g1⟩ := c_add (n := n) (v := (nI t).toInt64) hC hB (r := 8) (by omega) (by omega)
    have y1 : rsz (rAdd c 8 (nI t).toInt64) 8 = 5 * z + 1 := by rw [rAdd_sz (by omega), z4]
    obtain ⟨b2, d2, e2, f2, g2⟩ := c_add (n := n) (v := a2.toInt64) hC e1 (r := 8) (by omega) (by omega)
    have y2 : rsz (rAdd (rAdd c 8 (nI t).toInt64) 8 a2.toInt64) 8 = 5 * z + 2 := by rw [rAdd_sz (by omega), y1]
    obtain ⟨b3, d3, e3, f3, g3⟩ := c_add (n := n) (v := a3.toInt64) hC e2 (r := 8) (by omega) (by omega)
    have y3 : rsz (rAdd (rAdd (rAdd c 8 (nI t).toInt64) 8 a2.toInt64) 8 a3.toInt64) 8 = 5 * z + 3 := by rw [rAdd_sz (by omega), y2]
    obtain ⟨b4, d4, e4, f4, g4⟩ := c_add (n := n) (v := a4.toInt64) hC e3 (r := 8) (by omega) (by omega)
    have y4 : rsz (rAdd (rAdd (rAdd (rAdd c 8 (nI t).toInt64) 8 a2.toInt64) 8 a3.toInt64) 8 a4.toInt64) 8 = 5 * z + 4 := by rw [rAdd_sz (by omega), y3]
    obtain ⟨b5, d5, e5, f5, g5⟩ := c_add (n := n) (v := a5.toInt64) hC e4 (r := 8) (by omega) (by omega)
    obtain ⟨cz, ez⟩ : ∃ cz, cz = rAdd (rAdd (rAdd (rAdd (rAdd c 8 (nI t).toInt64) 8 a2.toInt64) 8 a3.toInt64) 8 a4.toInt64) 8 a5.toInt64 := ⟨_, rfl⟩
    have y5 : rsz cz 8 = 5 * z + 5 := by rw [ez, rAdd_sz (by omega), y4]
    have fc : cd_fr [43] [8] c cz := by
      rw [ez]
      exact cd_fr_add (cd_fr_add (cd_fr_add (cd_fr_add (cd_fr_add (cd_fr_refl _ _ _) (by simp) _) (by simp) _) (by simp) _) (by simp) _) (by simp) _
    have h43 : cI cz 43 0 = nI z := by
      rw [ez]
      simp only [rAdd_Io (show 43 ≠ 193 by decide)]
      exact z2
    rw [h231, show (5 : Int32) = nI 5 from rfl, nI_mul, hme, show (1 : Int32) = nI 1 from rfl, show (2 : Int32) = nI 2 from rfl, show (3 : Int32) = nI 3 from rfl, show (4 : Int32) = nI 4 from rfl, nI_add, nI_add, nI_add, nI_add, m_st92 (by omega), bs_some, m_st92 (by omega), bs_some, m_st92 (by omega), bs_some, m_st92 (by omega), bs_some, m_st92 (by omega), bs_some]
    obtain ⟨mz, emz⟩ : ∃ mz, mz = mSA (mSA (mSA (mSA (mSA m 92 (5 * z) (nI t)) 92 (5 * z + 1) a2) 92 (5 * z + 2) a3) 92 (5 * z + 3) a4) 92 (5 * z + 4) a5 := ⟨_, rfl⟩
    have fm : md_fr [91, 92] m mz := by
      rw [emz]
      exact md_fr_SA (md_fr_SA (md_fr_SA (md_fr_SA (md_fr_SA (md_fr_refl _ _) (by simp) _ _) (by simp) _ _) (by simp) _ _) (by simp) _ _) (by simp) _ _
    have h91 : mI mz 91 = nI z := by rw [emz]; exact z3
    rw [← emz, h91, bs_some]
    refine ⟨cSI cz 43 0 (nI (z + 1)), b5, mSI mz 91 (nI (z + 1)), ?_, by rw [nI_add], (by rw [ez]; exact e5.SI (by decide) _ _), ⟨by omega, by omega⟩, cd_fr_SI fc (by simp) (by decide) _ _, md_fr_SI fm (by simp) _, ⟨z + 1, by omega, cI_SIe, mI_SIe, ?_, fun i hi => ?_⟩⟩
    · refine c_ck ?_ (by dsimp only; omega) (by dsimp only; omega)
      rw [d1, bs_some]
      refine c_ck ?_ (by dsimp only; omega) (by dsimp only; omega)
      dsimp only
      rw [d2, bs_some]
      refine c_ck ?_ (by dsimp only; omega) (by dsimp only; omega)
      dsimp only
      rw [d3, bs_some]
      refine c_ck ?_ (by dsimp only; omega) (by dsimp only; omega)
      dsimp only
      rw [d4, bs_some]
      refine c_ck ?_ (by dsimp only; omega) (by dsimp only; omega)
      dsimp only
      rw [d5, bs_some]
      refine c_ck ?_ (by dsimp only; omega) (by dsimp only; omega)
      dsimp only
      rw [← ez, h43, bs_some, nI_add]
    · rw [show min (z + 1) 200 = z + 1 by omega]
      show rsz (cSI cz 43 0 (nI (z + 1))) 8 = _
      rw [rsz_e (show cI (cSI cz 43 0 (nI (z + 1))) 193 8 = cI cz 193 8 from cI_SIo (by decide)), y5]; omega
    · rw [show min (z + 1) 200 = z + 1 by omega] at hi
      show cRF cz 8 i = (mA mz 92 i).toInt64
      have r8 := hB.1 8 (by omega)
      have k1 := e1.1 8 (by omega)
      have k2 := e2.1 8 (by omega)
      have k3 := e3.1 8 (by omega)
      have k4 := e4.1 8 (by omega)
      rw [ez, emz]
      by_cases q4 : i = 5 * z + 4
      · rw [mA_SA, if_pos rfl, if_pos q4, q4, ← y4, rAdd_Fe]
      · rw [mA_SA, if_pos rfl, if_neg q4, rAdd_Fl k4.2.1 (by omega)]
        by_cases q3 : i = 5 * z + 3
        · rw [mA_SA, if_pos rfl, if_pos q3, q3, ← y3, rAdd_Fe]
        · rw [mA_SA, if_pos rfl, if_neg q3, rAdd_Fl k3.2.1 (by omega)]
          by_cases q2 : i = 5 * z + 2
          · rw [mA_SA, if_pos rfl, if_pos q2, q2, ← y2, rAdd_Fe]
          · rw [mA_SA, if_pos rfl, if_neg q2, rAdd_Fl k2.2.1 (by omega)]
            by_cases q1 : i = 5 * z + 1
            · rw [mA_SA, if_pos rfl, if_pos q1, q1, ← y1, rAdd_Fe]
            · rw [mA_SA, if_pos rfl, if_neg q1, rAdd_Fl k1.2.1 (by omega)]
              by_cases q0 : i = 5 * z
              · rw [mA_SA, if_pos rfl, if_pos q0, q0, ← z4, rAdd_Fe]
              · rw [mA_SA, if_pos rfl, if_neg q0, rAdd_Fl r8.2.1 (by omega)]
                exact z5 i (by omega)
