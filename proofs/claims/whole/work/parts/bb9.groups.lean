/-! groups of units -/
def GRP (c : cd_S) (s : Int32) (nm : Int64) (p : Int32) (u : Nat) : Prop := cI c 289 u = s ∧ cI c 294 u = p ∧ (s = 1 ∨ cJ c 293 u = nm)
theorem GRP.to {c c' : cd_S} {s p : Int32} {nm : Int64} {u : Nat} (h1 : cI c' 289 u = cI c 289 u) (h2 : cI c' 294 u = cI c 294 u) (h3 : cJ c' 293 u = cJ c 293 u) : GRP c' s nm p u ↔ GRP c s nm p u := by
  unfold GRP
  rw [h1, h2, h3]
theorem c_ldU {u : Nat} (h : u < 60) : cldR 65 (nI u) = some u := by rw [c_ld65 h, Nat.zero_add]
theorem c_grpL {n : Nat} {c : cd_S} {s p : Int32} {nm : Int64} {U : Nat} (hU : cI c 66 0 = nI U) (hU60 : U ≤ 60) : ∀ (d j i : Nat), i + d = U → d < j → (∃ x, i ≤ x ∧ x < U ∧ GRP c s nm p x ∧ (∀ y, i ≤ y → y < x → ¬ GRP c s nm p y) ∧ f_X2_groupOf_L3 n s nm p j c (nI i) = some (Sum.inl (nI x, c))) ∨ ((∀ y, i ≤ y → y < U → ¬ GRP c s nm p y) ∧ f_X2_groupOf_L3 n s nm p j c (nI i) = some (Sum.inr (c, nI U))) := by
  intro d
  induction d with
  | zero =>
    intro j i hi hj
    obtain ⟨j, rfl⟩ : ∃ q, j = q + 1 := ⟨j - 1, by omega⟩
    right
    refine ⟨fun y h1 h2 => by omega, ?_⟩
    obtain rfl : i = U := by omega
    rw [u_X2_groupOf_L3, hU, if_pos ((nI_leI (by omega) (by omega)).mpr (Nat.le_refl _))]
  | succ d ih =>
    intro j i hi hj
    obtain ⟨j, rfl⟩ : ∃ q, j = q + 1 := ⟨j - 1, by omega⟩
    have next : ¬ GRP c s nm p i → (∃ x, i ≤ x ∧ x < U ∧ GRP c s nm p x ∧ (∀ y, i ≤ y → y < x → ¬ GRP c s nm p y) ∧ f_X2_groupOf_J58 n s nm p (f_X2_groupOf_L3 n s nm p j) c (nI i) = some (Sum.inl (nI x, c))) ∨ ((∀ y, i ≤ y → y < U → ¬ GRP c s nm p y) ∧ f_X2_groupOf_J58 n s nm p (f_X2_groupOf_L3 n s nm p j) c (nI i) = some (Sum.inr (c, nI U))) := by
      intro hg
      unfold f_X2_groupOf_J58
      rw [nI_1]
      rcases ih j (i + 1) (by omega) (by omega) with ⟨x, x1, x2, x3, x4, x5⟩ | ⟨x1, x2⟩
      · exact Or.inl ⟨x, by omega, x2, x3, fun y h1 h2 => by
          by_cases hy : y = i
          · rw [hy]; exact hg
          · exact x4 y (by omega) h2, x5⟩
      · exact Or.inr ⟨fun y h1 h2 => by
          by_cases hy : y = i
          · rw [hy]; exact hg
          · exact x1 y (by omega) h2, x2⟩
    rw [u_X2_groupOf_L3, hU, if_neg (fun y => absurd ((nI_leI (by omega) (by omega)).mp y) (by omega)), c_ldU (by omega), bs_some]
    by_cases h1 : cI c 289 i = s
    · rw [if_pos h1]
      by_cases h2 : cI c 294 i = p
      · rw [if_pos h2]
        by_cases h3 : s = 1
        · rw [if_pos h3]
          exact Or.inl ⟨i, Nat.le_refl _, by omega, ⟨h1, h2, Or.inl h3⟩, fun y h1 h2 => by omega, rfl⟩
        · rw [if_neg h3]
          by_cases h4 : cJ c 293 i = nm
          · rw [if_pos (lgc.mpr h4)]
            exact Or.inl ⟨i, Nat.le_refl _, by omega, ⟨h1, h2, Or.inr h4⟩, fun y h1 h2 => by omega, rfl⟩
          · rw [if_neg (fun y => h4 (lgc.mp y))]
            exact next (fun g => g.2.2.elim h3 h4)
      · rw [if_neg h2]
        exact next (fun g => h2 g.2.1)
    · rw [if_neg h1]
      exact next (fun g => h1 g.1)
theorem c_groupOf {n : Nat} {c : cd_S} {s p : Int32} {nm : Int64} {U : Nat} (hn : 100 ≤ n) (hU : cI c 66 0 = nI U) (hU60 : U ≤ 60) : (∃ x, x < U ∧ GRP c s nm p x ∧ (∀ y, y < x → ¬ GRP c s nm p y) ∧ f_X2_groupOf n c s nm p = some (nI x, c)) ∨ ((∀ y, y < U → ¬ GRP c s nm p y) ∧ f_X2_groupOf n c s nm p = some (-1, c)) := by
  unfold f_X2_groupOf
  rw [show (0 : Int32) = nI 0 from rfl]
  rcases c_grpL (n := n) (s := s) (p := p) (nm := nm) hU hU60 U n 0 (by omega) (by omega) with ⟨x, x1, x2, x3, x4, x5⟩ | ⟨x1, x2⟩
  · exact Or.inl ⟨x, x2, x3, fun y hy => x4 y (by omega) hy, by rw [x5, bs_some]; rfl⟩
  · exact Or.inr ⟨fun y hy => x1 y (by omega) hy, by rw [x2, bs_some]; rfl⟩
/-- the group of unit u goes by number g -/
def GN (c : cd_S) (u g : Nat) : Prop := ((cI c 289 u = 0 ∨ cI c 289 u = 1) ∧ GRP c (cI c 289 u) (cJ c 293 u) (cI c 294 u) g ∧ ∀ y, y < g → ¬ GRP c (cI c 289 u) (cJ c 293 u) (cI c 294 u) y) ∨ (¬ (cI c 289 u = 0 ∨ cI c 289 u = 1) ∧ g = u)
theorem c_setlL {n : Nat} {c : cd_S} {U : Nat} (hn : 100 ≤ n) (hU : cI c 66 0 = nI U) (hU60 : U ≤ 60) : ∀ (d j i : Nat) (c1 : cd_S), i + d = U → d < j → cd_fr [297] [] c c1 → (∀ u, u < i → ∃ g, g < U ∧ cI c1 297 u = nI g ∧ GN c u g) → ∃ c2, f_X2_settleGroups_L2 n j c1 (nI i) = some (c2, nI U) ∧ cd_fr [297] [] c c2 ∧ ∀ u, u < U → ∃ g, g < U ∧ cI c2 297 u = nI g ∧ GN c u g := by
  intro d
  induction d with
  | zero =>
    intro j i c1 hi hj hf h
    obtain ⟨j, rfl⟩ : ∃ q, j = q + 1 := ⟨j - 1, by omega⟩
    obtain rfl : i = U := by omega
    refine ⟨c1, ?_, hf, h⟩
    rw [u_X2_settleGroups_L2, cd_frI hf (by decide) (by decide), hU, if_pos ((nI_leI (by omega) (by omega)).mpr (Nat.le_refl _))]
  | succ d ih =>
    intro j i c1 hi hj hf h
    obtain ⟨j, rfl⟩ : ∃ q, j = q + 1 := ⟨j - 1, by omega⟩
    have step : ∀ g, g < U → GN c i g → ∃ c2, f_X2_settleGroups_J63 n (f_X2_settleGroups_L2 n j) c1 (nI i) (nI g) i = some (c2, nI U) ∧ cd_fr [297] [] c c2 ∧ ∀ u, u < U → ∃ g, g < U ∧ cI c2 297 u = nI g ∧ GN c u g := by
      intro g hg hN
      unfold f_X2_settleGroups_J63
      rw [bs_some, nI_1]
      refine ih j (i + 1) (cSI c1 297 i (nI g)) (by omega) (by omega) (cd_fr_SI hf (by decide) (by decide) _ _) (fun u hu => ?_)
      by_cases hui : u = i
      · rw [hui]; exact ⟨g, hg, cI_SIe, hN⟩
      · rw [cI_SIi hui]; exact h u (by omega)
    have e289 : cI c1 289 i = cI c 289 i := cd_frI hf (by decide) (by decide) i
    have grouped : (cI c 289 i = 0 ∨ cI c 289 i = 1) → ∃ c2, f_X2_settleGroups_J32 n (f_X2_settleGroups_L2 n j) c1 (nI i) i = some (c2, nI U) ∧ cd_fr [297] [] c c2 ∧ ∀ u, u < U → ∃ g, g < U ∧ cI c2 297 u = nI g ∧ GN c u g := by
      intro hs
      unfold f_X2_settleGroups_J32 f_X2_settleGroups_J37
      rw [if_neg ne10]
      have hself : GRP c (cI c 289 i) (cJ c 293 i) (cI c 294 i) i := ⟨rfl, rfl, Or.inr rfl⟩
      have hgt : ∀ y, GRP c1 (cI c 289 i) (cJ c 293 i) (cI c 294 i) y ↔ GRP c (cI c 289 i) (cJ c 293 i) (cI c 294 i) y := fun y => GRP.to (cd_frI hf (by decide) (by decide) y) (cd_frI hf (by decide) (by decide) y) (cd_frJ hf (by decide) (by decide) y)
      rw [e289, cd_frJ hf (by decide) (by decide), cd_frI hf (by decide) (by decide)]
      rcases c_groupOf (n := n) (c := c1) (s := cI c 289 i) (p := cI c 294 i) (nm := cJ c 293 i) hn (by rw [cd_frI hf (by decide) (by decide)]; exact hU) hU60 with ⟨x, x1, x2, x3, x4⟩ | ⟨x1, x2⟩
      · rw [x4, bs_some]
        exact step x x1 (Or.inl ⟨hs, (hgt x).mp x2, fun y hy z => x3 y hy ((hgt y).mpr z)⟩)
      · exact absurd ((hgt i).mpr hself) (x1 i (by omega))
    rw [u_X2_settleGroups_L2, cd_frI hf (by decide) (by decide), hU, if_neg (fun y => absurd ((nI_leI (by omega) (by omega)).mp y) (by omega)), c_ldU (by omega), bs_some, e289]
    by_cases h0 : cI c 289 i = 0
    · rw [if_pos h0]; exact grouped (Or.inl h0)
    · rw [if_neg h0]
      by_cases h1 : cI c 289 i = 1
      · rw [if_pos h1]; exact grouped (Or.inr h1)
      · rw [if_neg h1]
        unfold f_X2_settleGroups_J37
        rw [if_pos rfl]
        exact step i (by omega) (Or.inr ⟨fun y => y.elim h0 h1, rfl⟩)
theorem settle_ok {n : Nat} {c : cd_S} {U : Nat} (hn : 100 ≤ n) (hU : cI c 66 0 = nI U) (hU60 : U ≤ 60) : ∃ c2, f_X2_settleGroups n c = some (0, c2) ∧ cd_fr [297] [] c c2 ∧ ∀ u, u < U → ∃ g, g < U ∧ cI c2 297 u = nI g ∧ GN c u g := by
  obtain ⟨c2, e1, e2, e3⟩ := c_setlL (n := n) hn hU hU60 U n 0 c (by omega) (by omega) (cd_fr_refl _ _ _) (fun u hu => by omega)
  refine ⟨c2, ?_, e2, e3⟩
  unfold f_X2_settleGroups
  rw [show f_X2_settleGroups_L2 n n c 0 = _ from e1, bs_some]
/-- two units of one group, said of the model -/
def SG (m : md_S) (u v : Nat) : Prop := mA m 36 u = mA m 36 v ∧ mA m 39 u = mA m 39 v ∧ (mA m 36 u = 1 ∨ (mA m 36 u = 0 ∧ mL m 43 u = mL m 43 v))
/-- what the groups need of the units -/
def UG (c : cd_S) (m : md_S) (U : Nat) : Prop := ∀ u, u < U → cI c 289 u = mA m 36 u ∧ cI c 294 u = mA m 39 u ∧ (mA m 36 u = 0 → NR (cJ c 293 u) (mL m 43 u))
theorem sg_iff {c : cd_S} {m : md_S} {U u v g h : Nat} (hq : UG c m U) (hu : u < U) (hv : v < U) (hgU : g < U) (hhU : h < U) (hg : GN c u g) (hh : GN c v h) : g = h ↔ (u = v ∨ SG m u v) := by
  obtain ⟨a1, a2, a3⟩ := hq u hu
  obtain ⟨b1, b2, b3⟩ := hq v hv
  have key : ∀ {x y : Nat}, x < U → y < U → SG m x y → ∀ z, z < U → (GRP c (cI c 289 x) (cJ c 293 x) (cI c 294 x) z ↔ GRP c (cI c 289 y) (cJ c 293 y) (cI c 294 y) z) := by
    intro x y hx hy ⟨s1, s2, s3⟩ z _
    obtain ⟨x1, x2, x3⟩ := hq x hx
    obtain ⟨y1, y2, y3⟩ := hq y hy
    have e1 : cI c 289 x = cI c 289 y := by rw [x1, y1, s1]
    have e2 : cI c 294 x = cI c 294 y := by rw [x2, y2, s2]
    unfold GRP
    rw [e1, e2]
    rcases s3 with s3 | ⟨s3, s4⟩
    · have : cI c 289 y = 1 := by rw [y1, ← s1]; exact s3
      rw [this]
      exact ⟨fun ⟨p, q, _⟩ => ⟨p, q, Or.inl rfl⟩, fun ⟨p, q, _⟩ => ⟨p, q, Or.inl rfl⟩⟩
    · have : cJ c 293 x = cJ c 293 y := ((x3 s3).iff (y3 (s1 ▸ s3))).mpr s4
      rw [this]
  rcases hg with ⟨g1, g2, g3⟩ | ⟨g1, g2⟩
  · rcases hh with ⟨h1, h2, h3⟩ | ⟨h1, h2⟩
    · constructor
      · intro e
        right
        rw [← e] at h2
        have e1 : mA m 36 u = mA m 36 v := by rw [← a1, ← b1, ← g2.1, ← h2.1]
        have e2 : mA m 39 u = mA m 39 v := by rw [← a2, ← b2, ← g2.2.1, ← h2.2.1]
        refine ⟨e1, e2, ?_⟩
        rcases g1 with g1 | g1
        · right
          have z1 : mA m 36 u = 0 := by rw [← a1]; exact g1
          refine ⟨z1, ((a3 z1).iff (b3 (e1 ▸ z1))).mp ?_⟩
          rcases g2.2.2 with y | y
          · rw [g1] at y; exact absurd y (by decide)
          · rcases h2.2.2 with w | w
            · rw [b1, ← e1, z1] at w; exact absurd w (by decide)
            · exact y.symm.trans w
        · left; rw [← a1]; exact g1
      · rintro (rfl | hs)
        · rcases Nat.lt_trichotomy g h with y | y | y
          · exact absurd g2 (h3 g y)
          · exact y
          · exact absurd h2 (g3 h y)
        · rcases Nat.lt_trichotomy g h with y | y | y
          · exact absurd ((key hu hv hs g hgU).mp g2) (h3 g y)
          · exact y
          · exact absurd ((key hu hv hs h hhU).mpr h2) (g3 h y)
    · constructor
      · intro e
        rw [e, h2] at g2
        refine absurd ?_ h1
        rw [g2.1]; exact g1
      · rintro (rfl | hs)
        · exact absurd g1 h1
        · refine absurd ?_ h1
          rw [b1, ← hs.1, ← a1]; exact g1
  · rcases hh with ⟨h1, h2, h3⟩ | ⟨h1, h2⟩
    · constructor
      · intro e
        rw [← e, g2] at h2
        refine absurd ?_ g1
        rw [h2.1]; exact h1
      · rintro (rfl | hs)
        · exact absurd h1 g1
        · refine absurd ?_ g1
          rw [a1, hs.1, ← b1]; exact h1
    · constructor
      · intro e; left; omega
      · rintro (rfl | hs)
        · omega
        · refine absurd ?_ g1
          rcases hs.2.2 with y | y
          · right; rw [a1]; exact y
          · left; rw [a1]; exact y.1
