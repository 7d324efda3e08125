/-! which thread goes next -/
/-- can thread x go on? -/
def cgm (m : md_S) (x : Nat) : Bool := decide (mA m 106 x = 0 ∧ (mA m 107 x = -1 ∨ mA m 106 (aN m 107 x) ≠ 0))
theorem can_ok {n K x : Nat} {c : cd_S} {m : md_S} (hK : K ≤ 8) (hT : ∀ x, x < K → THT c m K x) (hx : x < K) : f_X1_canGoOn n c (nI x) = some (if cgm m x = true then 1 else 0, c) ∧ f_X12_canGo n m (nI x) = some (if cgm m x = true then 1 else 0, m) := by
  obtain ⟨a1, a2, a3, a4, a5⟩ := hT x hx
  have hx8 : x < 8 := by omega
  have hb : cgm m x = true ↔ (mA m 106 x = 0 ∧ (mA m 107 x = -1 ∨ mA m 106 (aN m 107 x) ≠ 0)) := by unfold cgm; exact decide_eq_true_iff
  unfold f_X1_canGoOn f_X1_hasEnded f_X1_canGoOn_J33 f_X12_canGo f_X12_canGo_J33
  rw [c_strandAt hx8, bs_some]
  dsimp only
  rw [c_strandAt hx8, bs_some]
  dsimp only
  rw [a1, m_ld106 hx8, bs_some, m_ld107 hx8]
  by_cases q : mA m 106 x = 0
  · rw [if_pos q, if_pos q, bs_some, bs_some]
    dsimp only
    rw [if_pos rfl, a3]
    rcases a4 with z | ⟨y, y1, y2⟩
    · rw [if_pos z, if_pos z, if_pos (hb.mpr ⟨q, Or.inl z⟩)]
      exact ⟨rfl, rfl⟩
    · have hy8 : y < 8 := by omega
      have hy := (hT y y1).1
      have hw : aN m 107 x = y := aN_of y2 (by omega)
      rw [if_neg (show ¬ mA m 107 x = -1 by rw [y2]; exact nI_m1 (by omega)), if_neg (show ¬ mA m 107 x = -1 by rw [y2]; exact nI_m1 (by omega)), bs_some, y2, c_strandAt hy8, bs_some, m_ld106 hy8, bs_some]
      dsimp only
      rw [hy]
      by_cases qy : mA m 106 y = 0
      · rw [if_pos qy, if_pos qy, bs_some]
        dsimp only
        rw [if_pos rfl, if_neg (show ¬ cgm m x = true from fun z => by
          have := hb.mp z
          rcases this.2 with w | w
          · rw [y2] at w; exact nI_m1 (by omega) w
          · rw [hw] at w; exact w qy)]
        exact ⟨rfl, rfl⟩
      · rw [if_neg qy, if_neg qy, bs_some]
        dsimp only
        rw [if_neg ne10, if_pos (hb.mpr ⟨q, Or.inr (by rw [hw]; exact qy)⟩)]
        exact ⟨rfl, rfl⟩
  · rw [if_neg q, if_neg q, bs_some, if_neg (fun z => q (hb.mp z).1)]
    exact ⟨rfl, rfl⟩
