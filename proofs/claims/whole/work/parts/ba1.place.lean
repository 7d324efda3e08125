/-! the class's reckoning of the grants that reach a module -/
theorem c_ldR96 {i : Nat} (h : i < 8) : cldR 96 (nI i) = some i := by
  have h0 : cd_ob 96 = 0 := rfl
  unfold cldR
  rw [if_pos (md_ibn (L := cd_alen 96) (show i < cd_alen 96 from h) (by decide)), nI_clamp (by omega), h0, Nat.zero_add]
theorem c_mskL {n : Nat} {c : cd_S} {m : md_S} {d g : Nat} {l1 : Int32} (hn : 5000 ≤ n) (hd : d < 8) (hg : g ≤ 8) (h106 : cI c 106 0 = nI g) (hgr : ∀ i, i < g → RP c m i (8 + i)) (hr : RP c m 193 d) : ∀ (e j x : Nat), x + e = g → e < j → f_X3_placeModule_L16 n 193 l1 j c (mskF m d x) (nI x) = some (c, mskF m d g, nI g) := by
  intro e
  induction e with
  | zero =>
    intro j x hx hj
    obtain ⟨j, rfl⟩ : ∃ q, j = q + 1 := ⟨j - 1, by omega⟩
    obtain rfl : x = g := by omega
    rw [u_X3_placeModule_L16, h106, if_pos ((nI_leI (by omega) (by omega)).mpr (Nat.le_refl _))]
  | succ e ih =>
    intro j x hx hj
    obtain ⟨j, rfl⟩ : ∃ q, j = q + 1 := ⟨j - 1, by omega⟩
    obtain ⟨v, v1, v2, v3⟩ := cov_ok (n := n) (by omega) (show 8 + x < 266 by omega) (show d < 266 by omega) (hgr x (by omega)) hr
    have hb := v3.iff (cov_iff (hgr x (by omega)) hr)
    have ihh := ih j (x + 1) (by omega) (by omega)
    rw [u_X3_placeModule_L16, h106, if_neg (fun y => absurd ((nI_leI (by omega) (by omega)).mp y) (by omega)), c_ldR96 (by omega), bs_some, v1, bs_some]
    unfold f_X3_placeModule_J48
    dsimp only
    rw [nI_1]
    rw [mskF_s] at ihh
    rcases hb with ⟨w1, w2⟩ | ⟨w1, w2⟩
    · rw [if_pos w2] at ihh
      rw [w1, if_neg ne10]
      exact ihh
    · rw [if_neg w2] at ihh
      rw [w1, if_pos rfl]
      exact ihh
/-- the table of domains behind the first modules -/
def dtab (k : Nat → Int32) : Nat → List Int32
  | 0 => []
  | i + 1 => if k i ∈ dtab k i then dtab k i else dtab k i ++ [k i]
theorem dtab_len (k : Nat → Int32) : ∀ i, (dtab k i).length ≤ i
  | 0 => Nat.le_refl _
  | i + 1 => by
    have := dtab_len k i
    unfold dtab
    split
    · omega
    · rw [List.length_append]; simp; omega
/-- the class's table of domains -/
def DTc (c : cd_S) (k : Nat → Int32) (mc : Nat) : Prop := cI c 108 0 = nI (dtab k mc).length ∧ (∀ t, t < (dtab k mc).length → (dtab k mc)[t]? = some (cAr c 100 0 t)) ∧ ∀ i, i < mc → ∃ t, t < (dtab k mc).length ∧ cAr c 101 0 i = nI t ∧ (dtab k mc)[t]? = some (k i)
/-- the place of a set in the table -/
theorem c_domL {n : Nat} {c : cd_S} {l1 v : Int32} {T : List Int32} (hT : T.length ≤ 8) (h108 : cI c 108 0 = nI T.length) (h100 : ∀ t, t < T.length → T[t]? = some (cAr c 100 0 t)) : ∀ (e j x : Nat), x + e = T.length → e < j → (∃ t, x ≤ t ∧ t < T.length ∧ T[t]? = some v ∧ f_X3_placeModule_L59 n 193 l1 v j c (nI x) = some (c, nI t)) ∨ ((∀ t, x ≤ t → t < T.length → T[t]? ≠ some v) ∧ f_X3_placeModule_L59 n 193 l1 v j c (nI x) = some (c, nI T.length)) := by
  intro e
  induction e with
  | zero =>
    intro j x hx hj
    obtain ⟨j, rfl⟩ : ∃ q, j = q + 1 := ⟨j - 1, by omega⟩
    right
    refine ⟨fun t h1 h2 => by omega, ?_⟩
    rw [u_X3_placeModule_L59, h108, if_pos ((nI_leI (by omega) (by omega)).mpr (by omega)), show x = T.length by omega]
  | succ e ih =>
    intro j x hx hj
    obtain ⟨j, rfl⟩ : ∃ q, j = q + 1 := ⟨j - 1, by omega⟩
    have hx2 := h100 x (by omega)
    rw [u_X3_placeModule_L59, h108, if_neg (fun y => absurd ((nI_leI (by omega) (by omega)).mp y) (by omega)), c_ld100 (by omega), bs_some]
    by_cases hv : cAr c 100 0 x = v
    · rw [if_pos hv]
      exact Or.inl ⟨x, Nat.le_refl _, by omega, by rw [hx2, hv], rfl⟩
    · rw [if_neg hv, nI_1]
      rcases ih j (x + 1) (by omega) (by omega) with ⟨t, t1, t2, t3, t4⟩ | ⟨t1, t2⟩
      · exact Or.inl ⟨t, by omega, t2, t3, t4⟩
      · refine Or.inr ⟨fun t h1 h2 => ?_, t2⟩
        by_cases htx : t = x
        · rw [htx, hx2]; exact fun y => hv (Option.some.inj y)
        · exact t1 t (by omega) h2
