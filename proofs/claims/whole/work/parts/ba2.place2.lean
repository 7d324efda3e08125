/-! a module is placed among the domains -/
theorem dtab_in {k : Nat → Int32} {d : Nat} (h : k d ∈ dtab k d) : dtab k (d + 1) = dtab k d := by
  show (if k d ∈ dtab k d then dtab k d else dtab k d ++ [k d]) = _
  rw [if_pos h]
theorem dtab_out {k : Nat → Int32} {d : Nat} (h : k d ∉ dtab k d) : dtab k (d + 1) = dtab k d ++ [k d] := by
  show (if k d ∈ dtab k d then dtab k d else dtab k d ++ [k d]) = _
  rw [if_neg h]
theorem place_ok {n : Nat} {c : cd_S} {m : md_S} {d g : Nat} {k : Nat → Int32} (hn : 5000 ≤ n) (hd : d < 8) (hg : g ≤ 8) (h106 : cI c 106 0 = nI g) (hgr : ∀ i, i < g → RP c m i (8 + i)) (hr : RP c m 193 d) (hk : k d = mskF m d g) (hD : DTc c k d) : ∃ c', f_X3_placeModule n c (nI d) 193 = some (0, c') ∧ cd_fr [100, 101, 108] [] c c' ∧ DTc c' k (d + 1) ∧ ∀ i, i ≠ d → cAr c' 101 0 i = cAr c 101 0 i := by
  obtain ⟨h108, h100, h101⟩ := hD
  have hlen := dtab_len k d
  have e1 := c_mskL (n := n) (l1 := nI d) hn hd hg h106 hgr hr g n 0 (by omega) (by omega)
  have e2 := c_domL (n := n) (l1 := nI d) (v := mskF m d g) (by omega) h108 h100 (dtab k d).length n 0 (by omega) (by omega)
  unfold f_X3_placeModule
  rw [if_neg (show ¬ nI d < 0 from nI_nn (by omega)), if_pos (show nI d < (8 : Int32) from by
    have := (nI_leI (a := 8) (b := d) (by omega) (by omega))
    exact Int32.not_le.mp (fun y => absurd (this.mp y) (by omega))), show f_X3_placeModule_L16 n 193 (nI d) n c 0 0 = _ from e1, bs_some]
  dsimp only
  unfold f_X3_placeModule_J119
  rcases e2 with ⟨t, -, t2, t3, t4⟩ | ⟨t1, t4⟩
  · rw [show f_X3_placeModule_L59 n 193 (nI d) (mskF m d g) n c 0 = _ from t4, bs_some]
    dsimp only
    rw [h108, if_neg (show ¬ nI t = nI (dtab k d).length from fun y => absurd ((nI_eq (by omega) (by omega)).mp y) (by omega)), c_st101 (by omega), bs_some]
    have hin : k d ∈ dtab k d := by rw [hk]; exact List.mem_of_getElem? t3
    refine ⟨_, rfl, cd_fr_SA (cd_fr_refl _ _ _) (by decide) _ _ _, ⟨?_, ?_, fun i hi => ?_⟩, fun i hi => cA_SAi hi⟩
    · rw [dtab_in hin]; exact h108
    · rw [dtab_in hin]
      intro s hs
      rw [cA_SAo (by decide)]; exact h100 s hs
    · rw [dtab_in hin]
      by_cases hid : i = d
      · rw [hid]
        exact ⟨t, t2, cA_SAe, by rw [hk]; exact t3⟩
      · rw [cA_SAi hid]
        exact h101 i (by omega)
  · rw [show f_X3_placeModule_L59 n 193 (nI d) (mskF m d g) n c 0 = _ from t4, bs_some]
    dsimp only
    rw [h108, if_pos rfl, if_neg (show ¬ (8 : Int32) ≤ nI (dtab k d).length from fun y => absurd ((nI_leI (a := 8) (by omega) (by omega)).mp y) (by omega)), c_st100 (by omega), bs_some, bs_some, cI_SA, h108, nI_1, c_st101 (by omega), bs_some]
    have hout : k d ∉ dtab k d := by
      rw [hk]
      intro y
      obtain ⟨t, t5, t6⟩ := List.getElem_of_mem y
      exact t1 t (by omega) t5 (by rw [List.getElem?_eq_getElem t5, t6])
    have hl : (dtab k (d + 1)).length = (dtab k d).length + 1 := by rw [dtab_out hout, List.length_append]; rfl
    refine ⟨_, rfl, cd_fr_SA (cd_fr_SI (cd_fr_SA (cd_fr_refl _ _ _) (by decide) _ _ _) (by decide) (by decide) _ _) (by decide) _ _ _, ⟨?_, fun s hs => ?_, fun i hi => ?_⟩, fun i hi => by rw [cA_SAi hi, cA_SI, cA_SAo (by decide)]⟩
    · rw [cI_SA, cI_SIe, hl]
    · rw [cA_SAo (by decide), cA_SI, dtab_out hout]
      rw [hl] at hs
      by_cases hsl : s = (dtab k d).length
      · rw [hsl, cA_SAe, List.getElem?_append_right (Nat.le_refl _), Nat.sub_self, hk]; rfl
      · rw [cA_SAi hsl, List.getElem?_append_left (by omega)]
        exact h100 s (by omega)
    · by_cases hid : i = d
      · rw [hid]
        refine ⟨(dtab k d).length, by omega, cA_SAe, ?_⟩
        rw [dtab_out hout, List.getElem?_append_right (Nat.le_refl _), Nat.sub_self]; rfl
      · obtain ⟨t, t2, t3, t5⟩ := h101 i (by omega)
        refine ⟨t, by omega, by rw [cA_SAi hid, cA_SI, cA_SAo (by decide)]; exact t3, ?_⟩
        rw [dtab_out hout, List.getElem?_append_left t2]; exact t5
