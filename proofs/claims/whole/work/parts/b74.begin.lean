/-! openUnit and newUnit in step -/
def opD (c : cd_S) (u : Nat) (s q d at' : Int32) : cd_S := cSI (cSI (cSI (cSI (cSI (cSI (cSI (cSI (cSI (cSI (cSJ (cSI (cSI (cSI (cSI c 288 u (nI u)) 289 u s) 290 u q) 292 u at') 293 u 0) 294 u 0) 296 u (-1)) 297 u (nI u)) 298 u 0) 299 u 0) 301 u 0) 302 u 0) 193 (17 + 3 * u) 0) 291 u d) 66 0 (nI (u + 1))
def opC (c : cd_S) (u : Nat) (s q p d at' : Int32) : cd_S := cSI (opD c u s q d at') 295 u p
def opM (m : md_S) (u : Nat) (s p q : Int32) : md_S := mSL (mSA (mSA (mSA (mSA (mSA (mSA (mSA (mSA (mSA (mSI m 35 (nI (u + 1))) 36 u s) 37 u q) 38 u (mI m 9)) 39 u 0) 40 u p) 44 u 0) 46 u 0) 42 u (-1)) 55 u (-1)) 43 u (mJ m 12)
theorem m_newUnit1 {n : Nat} {m : md_S} {u : Nat} {s p q : Int32} (h6 : mI m 6 = 0) (h : mI m 35 = nI u) (hu : u < 60) : f_X12_newUnit n m s q p = some (nI u, opM m u s p q) := by
  unfold f_X12_newUnit
  rw [m_fine, bs_some, if_pos h6]
  dsimp only
  rw [if_neg ne10, h, if_neg (show ¬ nI u = 60 from fun y => absurd ((nI_eq (b := 60) (by omega) (by decide)).mp y) (by omega)), bs_some, nI_1, m_st36 hu, bs_some, m_st37 hu, bs_some, m_st38 hu, bs_some, m_st39 hu, bs_some, m_st40 hu, bs_some, m_st44 hu, bs_some, m_st46 hu, bs_some, m_st42 hu, bs_some, m_st55 hu, bs_some, m_st43 hu, bs_some]
  rfl
theorem c_openUnit1 {n : Nat} {c : cd_S} {b : cd_B} {u d w : Nat} {s : Int32} (h : cI c 66 0 = nI u) (hu : u < 60) (hs : s ≠ 0) (hd : cI c 137 0 = nI d) (hd8 : d < 8) (hw : cd_dp c 136 0 = some w) (hwu : w < u) (h288 : cI c 288 w = nI w) : f_X4_openUnit n c b s = some (Sum.inl (u, opC c u s (nI d) (nI w) (cAr c 101 0 d) (cI c 329 0), b)) := by
  unfold f_X4_openUnit f_X4_openUnit_J18 f_X4_openUnit_J60 f_X2_addUnit f_X2_addUnit_J18
  refine c_ck ?_ (Nat.le_refl _) (Nat.le_refl _)
  rw [h, if_neg (show ¬ (60 : Int32) ≤ nI u from fun y => absurd ((nI_leI (a := 60) (by decide) (by omega)).mp y) (by omega)), c_room1, bs_some]
  refine c_ck ?_ (Nat.le_refl _) (Nat.le_refl _)
  dsimp only [Sum.elim]
  rw [h, if_neg (show ¬ (60 : Int32) ≤ nI u from fun y => absurd ((nI_leI (a := 60) (by decide) (by omega)).mp y) (by omega)), c_ld65 hu, bs_some, Nat.zero_add]
  unfold f_X9_open f_X9_open_J51
  rw [bs_some, bs_some, bs_some, bs_some, bs_some, bs_some, bs_some, bs_some, if_neg hs, bs_some, bs_some, bs_some, bs_some, bs_some, bs_some]
  dsimp only
  unfold f_X3_domainOf
  rw [hd, if_neg (show ¬ nI d < 0 from nI_nn (by omega)), if_neg (show ¬ (8 : Int32) ≤ nI d from fun y => absurd ((nI_leI (a := 8) (by decide) (by omega)).mp y) (by omega)), c_ld101 hd8, bs_some, bs_some]
  dsimp only
  rw [bs_some, bs_some, bs_some, if_neg hs, nI_1]
  show (Option.bind (cd_dp (opD c u s (nI d) (cAr c 101 0 d) (cI c 329 0)) 136 0) fun u5 => Option.bind (some (cSI (opD c u s (nI d) (cAr c 101 0 d) (cI c 329 0)) 295 u (cI (opD c u s (nI d) (cAr c 101 0 d) (cI c 329 0)) 288 u5))) fun σ1 => some (Sum.inl (u, σ1, b))) = _
  have e1 : cd_dp (opD c u s (nI d) (cAr c 101 0 d) (cI c 329 0)) 136 0 = some w := hw
  have e2 : cI (opD c u s (nI d) (cAr c 101 0 d) (cI c 329 0)) 288 w = nI w := by
    unfold opD
    rw [cI_SIo (by decide), cI_SIo (by decide), cI_SIo (by decide), cI_SIo (by decide), cI_SIo (by decide), cI_SIo (by decide), cI_SIo (by decide), cI_SIo (by decide), cI_SIo (by decide), cI_SIo (by decide), cI_SJ, cI_SIo (by decide), cI_SIo (by decide), cI_SIo (by decide), cI_SIi (by omega)]
    exact h288
  rw [e1, bs_some, e2, bs_some]
  rfl
