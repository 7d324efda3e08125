/-! a label, as the class writes it: its place is kept -/
theorem c_wlab {n : Nat} {c : cd_S} {m : md_S} {b : cd_B} {u r x l : Nat} {E : List EN} {S : Nat → Prop} {R : Bool} (hrR : r = if R = true then 19 + 3 * u else 18 + 3 * u) (hE : SCP c u E) (hx : x < E.length) (hk : (E.getD x (0, 0, 0)).1 = 100) (hl : (E.getD x (0, 0, 0)).2.1 = nI l) (hl4 : l < 400) (hh : R = true → cI c 301 u ≠ 0 → ∃ v, f_X2_handsContext n c (E.getD x (0, 0, 0)).1 (E.getD x (0, 0, 0)).2.1 (E.getD x (0, 0, 0)).2.2 = some (v, c) ∧ bI (HE m S (E.getD x (0, 0, 0))) v) : f_X9_writeOne n c b u r (nI x) = some (0, cSA c 79 0 l (cI c 193 r), b) := by
  obtain ⟨w1, w2, w3⟩ := c_ent (n := n) hE hx
  have hno : ¬ HE m S (E.getD x (0, 0, 0)) := fun y => by
    have := y.kd
    rw [hk] at this
    exact absurd this (by decide)
  have j0 : f_X9_writeOne_J49 n u r c b (nI x) (E.getD x (0, 0, 0)).1 (E.getD x (0, 0, 0)).2.1 = some (0, cSA c 79 0 l (cI c 193 r), b) := by
    unfold f_X9_writeOne_J49 f_X9_writeOne_J50
    rw [if_pos hk, hl, if_neg (show ¬ nI l < 0 from nI_nn (by omega)), if_neg (show ¬ (400 : Int32) ≤ nI l from fun y => absurd ((nI_leI (a := 400) (by decide) (by omega)).mp y) (by omega)), c_st79 hl4, bs_some]
  unfold f_X9_writeOne
  refine c_ck ?_ (Nat.le_refl _) (Nat.le_refl _)
  rw [w1, bs_some]
  dsimp only
  rw [w2, bs_some]
  dsimp only
  cases hR : R
  · rw [hR, if_neg (by decide)] at hrR
    rw [if_neg (by omega)]
    exact j0
  · rw [hR, if_pos rfl] at hrR
    rw [if_pos hrR]
    by_cases h301 : cI c 301 u = 0
    · rw [if_pos h301]
      exact j0
    · rw [if_neg h301, w3, bs_some]
      dsimp only
      obtain ⟨v, v1, v2⟩ := hh hR h301
      rw [v1, bs_some]
      dsimp only
      rcases v2 with ⟨rfl, hv⟩ | ⟨rfl, hv⟩
      · exact absurd hv hno
      · rw [if_pos rfl]
        exact j0
