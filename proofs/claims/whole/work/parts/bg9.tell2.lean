/-! count and has -/
def cnN (c : cd_S) (i : Nat) : Nat := rsum (fun u => if cI c 301 u = 0 then 0 else 1) i
theorem cnN_s (c : cd_S) (i : Nat) : cnN c (i + 1) = cnN c i + (if cI c 301 i = 0 then 0 else 1) := rfl
theorem c_needing {n : Nat} {c : cd_S} {U : Nat} (hU : cI c 66 0 = nI U) (hU60 : U ≤ 60) : ∀ (d j i : Nat), i + d = U → d < j → f_X2_needing_L4 n j c (nI (cnN c i)) (nI i) = some (c, nI (cnN c U), nI U) := by
  intro d
  induction d with
  | zero =>
    intro j i hi hj
    obtain ⟨j, rfl⟩ : ∃ q, j = q + 1 := ⟨j - 1, by omega⟩
    obtain rfl : i = U := by omega
    rw [u_X2_needing_L4, hU, if_pos ((nI_leI (by omega) (by omega)).mpr (Nat.le_refl _))]
  | succ d ih =>
    intro j i hi hj
    obtain ⟨j, rfl⟩ : ∃ q, j = q + 1 := ⟨j - 1, by omega⟩
    rw [u_X2_needing_L4, hU, if_neg (fun y => absurd ((nI_leI (by omega) (by omega)).mp y) (by omega)), c_ldU (by omega), bs_some]
    unfold f_X2_needing_J30
    have := ih j (i + 1) (by omega) (by omega)
    rw [cnN_s] at this
    by_cases h : cI c 301 i = 0
    · rw [if_pos h] at this ⊢
      rw [show (0 : Int32) = nI 0 from rfl, nI_add, nI_1]; exact this
    · rw [if_neg h] at this ⊢
      rw [show nI (cnN c i) + 1 = nI (cnN c i + 1) from nI_1 _, nI_1]; exact this
theorem m_needing {n : Nat} {c : cd_S} {m : md_S} {U : Nat} {a : Int32} (hU : mI m 35 = nI U) (hU60 : U ≤ 60) (h47 : ∀ u, u < U → (cI c 301 u ≠ 0 ↔ mA m 47 u ≠ 0)) : ∀ (d j i : Nat), i + d = U → d < j → f_X12_count_L43 n a j m (nI (cnN c i)) (nI i) = some (m, nI (cnN c U), nI U) := by
  intro d
  induction d with
  | zero =>
    intro j i hi hj
    obtain ⟨j, rfl⟩ : ∃ q, j = q + 1 := ⟨j - 1, by omega⟩
    obtain rfl : i = U := by omega
    rw [u_X12_count_L43, hU, if_pos ((nI_leI (by omega) (by omega)).mpr (Nat.le_refl _))]
  | succ d ih =>
    intro j i hi hj
    obtain ⟨j, rfl⟩ : ∃ q, j = q + 1 := ⟨j - 1, by omega⟩
    rw [u_X12_count_L43, hU, if_neg (fun y => absurd ((nI_leI (by omega) (by omega)).mp y) (by omega)), m_ld47 (by omega), bs_some]
    unfold f_X12_count_J66
    have := ih j (i + 1) (by omega) (by omega)
    rw [cnN_s] at this
    have h7 := h47 i (by omega)
    by_cases h : cI c 301 i = 0
    · have h2 : mA m 47 i = 0 := by
        by_cases h2 : mA m 47 i = 0
        · exact h2
        · exact absurd h (h7.mpr h2)
      rw [if_pos h] at this
      rw [if_pos h2, show (0 : Int32) = nI 0 from rfl, nI_add, nI_1]; exact this
    · rw [if_neg h] at this
      rw [if_neg (h7.mp h), show nI (cnN c i) + 1 = nI (cnN c i + 1) from nI_1 _, nI_1]; exact this
theorem count_ok {n : Nat} {c : cd_S} {m : md_S} {t : Nat} {a : Int32} (hn : 100 ≤ n) (h : PFl n c m) (hT : TR c m t) : ∃ v m', f_X11_count n c a = some (v, c) ∧ f_X12_count n m a = some (v, m') ∧ md_fr [0, 80] m m' ∧ mI m' 0 = 0 := by
  unfold f_X11_count f_X12_count
  rw [bs_some]
  have f0 : md_fr [0, 80] m (mSI m 0 0) := md_fr_SI (md_fr_refl _ _) (by decide) _
  have z0 : mI (mSI m 0 0) 0 = 0 := mI_SIe
  by_cases a9 : a = 9
  · rw [a9, if_neg (by decide), if_pos (by decide), if_pos rfl, if_pos rfl]
    exact ⟨_, _, rfl, by rw [mI_SIo (by decide), hT.2.1, hT.2.2.1], f0, z0⟩
  rw [if_neg a9, if_neg a9]
  have e8 : (8 : Int64) = (nI 9 - 1).toInt64 := by decide
  rw [e8]
  rcases rng_c (a := a) (K := 9) (by omega) with ⟨x, r1, r2, r3⟩ | ⟨r1, r2⟩
  · rcases rng_m (n := n) (s := mSI m 0 0) (a := a) (K := 9) (by omega) with ⟨y, q1, q2⟩ | ⟨q1, q2⟩
    · have hx := r1.2
      have a9' : a ≤ 9 := by rw [r1.1]; exact (nI_leI (b := 9) (by omega) (by decide)).mpr (by omega)
      rw [if_neg r2, if_pos a9', q2, bs_some]
      dsimp only
      rw [if_neg ne10, mI_SIo (by decide)]
      rcases h with ⟨h1, h2⟩ | ⟨h1, h2, d, hd⟩
      · rw [if_pos h1, if_pos h2]; exact ⟨0, _, rfl, rfl, f0, z0⟩
      · have hv := hd.v
        obtain ⟨⟨n1, n2, n3, -⟩, ⟨d1, d2, d3, -⟩, ⟨k1, k2, k3, -⟩, ⟨j1, j2⟩, ⟨g, l, z, hP, hD⟩, hu⟩ := hv
        have lpm := m_needing (n := n) (c := c) (m := mSI m 0 0) (U := mN m 35) (a := a) n2 n3 (fun u hu' => (hu u hu').2.2.2.2.2.1) (mN m 35) n 0 (by omega) (by omega)
        have lpc := c_needing (n := n) (c := c) (U := mN m 35) n1 n3 (mN m 35) n 0 (by omega) (by omega)
        rw [if_neg (show ¬ cI c 362 0 = 0 by rw [h1]; decide), if_neg (show ¬ mI m 5 = 0 by rw [h2]; decide), show f_X12_count_L43 n a n (mSI m 0 0) 0 0 = _ from lpm, bs_some]
        dsimp only
        have st : ∀ (s : md_S) (i : Nat) (v : Int32), i < 9 → mstA s 80 (nI i) v = some (mSA s 80 i v) := fun s i v hi => m_st80 hi
        rw [show (0 : Int32) = nI 0 from rfl, st _ 0 _ (by omega), bs_some, show (1 : Int32) = nI 1 from rfl, st _ 1 _ (by omega), bs_some, show (2 : Int32) = nI 2 from rfl, st _ 2 _ (by omega), bs_some, show (3 : Int32) = nI 3 from rfl, st _ 3 _ (by omega), bs_some, show (4 : Int32) = nI 4 from rfl, st _ 4 _ (by omega), bs_some, show (5 : Int32) = nI 5 from rfl, st _ 5 _ (by omega), bs_some, show (6 : Int32) = nI 6 from rfl, st _ 6 _ (by omega), bs_some, show (7 : Int32) = nI 7 from rfl, st _ 7 _ (by omega), bs_some, show (8 : Int32) = nI 8 from rfl, st _ 8 _ (by omega), bs_some, r1.1, m_ld80 hx, bs_some]
        refine ⟨_, _, ?_, rfl, ?_, ?_⟩
        · unfold f_X2_sizeOf f_X2_needing
          have hx9 : x = 0 ∨ x = 1 ∨ x = 2 ∨ x = 3 ∨ x = 4 ∨ x = 5 ∨ x = 6 ∨ x = 7 ∨ x = 8 := by omega
          have lpc' : f_X2_needing_L4 n n c 0 0 = some (c, nI (cnN c (mN m 35)), nI (mN m 35)) := lpc
          rcases hx9 with rfl | rfl | rfl | rfl | rfl | rfl | rfl | rfl | rfl
          · rw [if_pos (by decide), bs_some, n1, ← n2]; rfl
          · rw [if_neg (by decide), if_pos (by decide), bs_some, d1, ← d2]; rfl
          · rw [if_neg (by decide), if_neg (by decide), if_pos (by decide), bs_some, hP.2.2.2.1, ← hP.2.2.2.2.1]; rfl
          · rw [if_neg (by decide), if_neg (by decide), if_neg (by decide), if_pos (by decide), bs_some, hD.2.1, ← hD.2.2.1]; rfl
          · rw [if_neg (by decide), if_neg (by decide), if_neg (by decide), if_neg (by decide), if_pos (by decide), bs_some, hP.2.2.2.2.2.1, ← hP.2.2.2.2.2.2.1]; rfl
          · rw [if_neg (by decide), if_neg (by decide), if_neg (by decide), if_neg (by decide), if_neg (by decide), if_pos (by decide), bs_some, j2]; rfl
          · rw [if_neg (by decide), if_neg (by decide), if_neg (by decide), if_neg (by decide), if_neg (by decide), if_neg (by decide), if_pos (by decide), lpc', bs_some, bs_some, bs_some]; rfl
          · rw [if_neg (by decide), if_neg (by decide), if_neg (by decide), if_neg (by decide), if_neg (by decide), if_neg (by decide), if_neg (by decide), if_pos (by decide), bs_some, k1, ← k2]; rfl
          · rw [if_neg (by decide), if_neg (by decide), if_neg (by decide), if_neg (by decide), if_neg (by decide), if_neg (by decide), if_neg (by decide), if_neg (by decide), if_pos (by decide), bs_some, j1]; rfl
        · exact md_fr_SA (md_fr_SA (md_fr_SA (md_fr_SA (md_fr_SA (md_fr_SA (md_fr_SA (md_fr_SA (md_fr_SA f0 (by decide) _ _) (by decide) _ _) (by decide) _ _) (by decide) _ _) (by decide) _ _) (by decide) _ _) (by decide) _ _) (by decide) _ _) (by decide) _ _
        · exact z0
    · exact absurd r1 (q1 x)
  · rcases rng_m (n := n) (s := mSI m 0 0) (a := a) (K := 9) (by omega) with ⟨y, q1, q2⟩ | ⟨q1, q2⟩
    · exact absurd q1 (r1 y)
    · rw [q2, bs_some]
      dsimp only
      rw [if_pos rfl]
      refine ⟨-1, _, ?_, rfl, f0, z0⟩
      rcases r2 with r2 | ⟨r2, r3⟩
      · rw [if_pos r2]
      · have a9' : ¬ a ≤ 9 := by
          intro y
          rcases i32_c a with h | ⟨x, rfl, hx⟩
          · exact r2 h
          · have h1 := (nI_leI (a := 9) (by decide) hx).mp r3
            have h2 := (nI_leI (b := 9) hx (by decide)).mp y
            have : x = 9 := by omega
            rw [this] at a9
            exact a9 rfl
        rw [if_neg r2, if_neg a9']
theorem has_ok {n : Nat} {c : cd_S} {m : md_S} {a w : Int32} (hn : 100 ≤ n) (h : PFl n c m) (hA : AskR c m) : ∃ v, f_X11_has n c a w = some (v, c) ∧ f_X12_has n m a w = some (v, mSI m 0 0) := by
  unfold f_X11_has f_X12_has
  rw [bs_some, mI_SIo (by decide), mI_SIo (by decide), mI_SIo (by decide), mI_SIo (by decide)]
  rcases h with ⟨h1, h2⟩ | ⟨h1, h2, d, hd⟩
  · rw [if_pos h1, if_pos h2]; exact ⟨-1, rfl, rfl⟩
  rw [if_neg (show ¬ cI c 362 0 = 0 by rw [h1]; decide), if_neg (show ¬ mI m 5 = 0 by rw [h2]; decide)]
  rcases hA with ⟨a1, a2⟩ | ⟨a1, a2, a3, a4⟩
  · rw [if_pos a1, if_pos a2]; exact ⟨-1, rfl, rfl⟩
  rw [if_neg (show ¬ cI c 363 0 = 0 by rw [a1]; decide), if_neg (show ¬ mI m 81 = 0 by rw [a2]; decide)]
  obtain ⟨-, -, -, -, ⟨g, l, z, hP, hD⟩, -⟩ := hd.v
  have f0 : md_fr [0] m (mSI m 0 0) := md_fr_SI (md_fr_refl _ _) (by decide) _
  have hP0 : PolQ c (mSI m 0 0) g g l := hP.fr (cd_fr_refl c [] []) f0 (by decide) (by decide)
  have hD0 : DomR c (mSI m 0 0) z := hD.fr (cd_fr_refl c [] []) f0 (by decide) (by decide)
  have hR0 : RP c (mSI m 0 0) 195 264 := a3.fr (cd_fr_refl c [] []) f0 (by decide) (by decide)
  obtain ⟨x, x1, x2⟩ := holders_c (n := n) (r := 195) (p := 264) hn hP0.pol hD0 hR0 (by omega) (kd := mJ m 82) a4
  obtain ⟨m1, m2, -⟩ := bits_m (n := n) (r := 195) (p := 264) hn hP0.pol hD0 hR0 (by omega) (kd := mJ m 82) a4
  have hl := hP.2.2.1
  have hz := hD.1
  have one : ∀ (B : Prop) (i : Nat) (v : Int32), i < 32 → bI B v → (bt x i = true ↔ B) → (((x.toUInt32 >>> ((nI i).toUInt32 &&& Int32.toUInt32 31)).toInt32) &&& 1) = (if v = 0 then 0 else 1) := by
    intro B i v hi hv hb
    rw [bt_c hi]
    rcases hv with ⟨rfl, hB⟩ | ⟨rfl, hB⟩
    · rw [if_pos (hb.mpr hB), if_neg (by decide)]
    · rw [if_neg (fun y => hB (hb.mp y)), if_pos rfl]
  have j79 : ∀ v : Int32, f_X12_has_J79 n (mSI m 0 0) v = some ((if v = 0 then 0 else 1), mSI m 0 0) := fun v => by
    unfold f_X12_has_J79
    split <;> rfl
  have key : ∀ K : Nat, K < 32 → (∀ i, i < K → ∃ v, (if w = 0 then f_X11_has_J68 n c (nI i) x else f_X11_has_J68 n c (8 + nI i) x) = some (v, c) ∧ (if w = 0 then (Option.bind (f_X12_hasDomain n (mSI m 0 0) (nI i) (mJ m 82) 264) fun p2 => f_X12_has_J79 n p2.2 (p2.1)) else (Option.bind (f_X12_hasLimit n (mSI m 0 0) (nI i) (mJ m 82) 264) fun p3 => f_X12_has_J79 n p3.2 (p3.1))) = some (v, mSI m 0 0)) → ∃ v, (if a < 0 then some (-1, c) else f_X11_has_J40 n c a w (nI K) a) = some (v, c) ∧ f_X12_has_J37 n (mSI m 0 0) a w (nI K) 0 a.toInt64 = some (v, mSI m 0 0) := by
    intro K hK hi
    unfold f_X11_has_J40 f_X12_has_J37
    rcases rng_c (a := a) (K := K) (by omega) with ⟨y, r1, r2, r3⟩ | ⟨r1, r2⟩
    · rcases rng_m (n := n) (s := mSI m 0 0) (a := a) (K := K) (by omega) with ⟨y', q1, q2⟩ | ⟨q1, q2⟩
      · have hy := r1.2
        obtain ⟨v, v1, v2⟩ := hi y hy
        rw [if_neg r2, q2, bs_some, r1.1]
        dsimp only
        rw [if_pos ((nI_ltI (by omega) (by omega)).mpr hy), x1, bs_some, if_neg ne10]
        exact ⟨v, v1, v2⟩
      · exact absurd r1 (q1 y)
    · rcases rng_m (n := n) (s := mSI m 0 0) (a := a) (K := K) (by omega) with ⟨y', q1, q2⟩ | ⟨q1, q2⟩
      · exact absurd q1 (r1 y')
      · rw [q2, bs_some]
        dsimp only
        rw [if_pos rfl]
        refine ⟨-1, ?_, rfl⟩
        rcases r2 with r2 | ⟨r2, r3⟩
        · rw [if_pos r2]
        · rw [if_neg r2]
          have : ¬ a < nI K := by
            rcases i32_c a with h | ⟨x, rfl, hx⟩
            · exact absurd h r2
            · exact fun y => by
                have h1 := (nI_ltI hx (by omega)).mp y
                have h2 := (nI_leI (by omega) hx).mp r3
                omega
          rw [if_neg this]
  by_cases hw : w = 0
  · rw [if_pos hw]
    have kk := key z (by omega) (fun i hi => by
      obtain ⟨v, v1, v2⟩ := m1 i hi
      rw [if_pos hw, if_pos hw, show (264 : Int32) = nI 264 from rfl, v1, bs_some, j79]
      refine ⟨_, ?_, rfl⟩
      unfold f_X11_has_J68
      rw [one _ i v (by omega) v2 ?_]
      have := x2 i (by omega)
      rw [this]
      constructor
      · rintro ⟨-, (⟨-, y⟩ | ⟨y, -⟩)⟩
        · exact y
        · omega
      · intro y
        exact ⟨by omega, Or.inl ⟨hi, y⟩⟩)
    rw [hD.2.1, hD.2.2.1, if_pos hw]
    exact kk
  · rw [if_neg hw]
    have kk := key l (by omega) (fun i hi => by
      obtain ⟨v, v1, v2⟩ := m2 i hi
      rw [if_neg hw, if_neg hw, show (264 : Int32) = nI 264 from rfl, v1, bs_some, j79, show (8 : Int32) = nI 8 from rfl, nI_add]
      refine ⟨_, ?_, rfl⟩
      unfold f_X11_has_J68
      rw [one _ (8 + i) v (by omega) v2 ?_]
      have := x2 (8 + i) (by omega)
      rw [this]
      constructor
      · rintro ⟨-, (⟨y, -⟩ | ⟨-, -, y⟩)⟩
        · omega
        · rw [show 8 + i - 8 = i by omega] at y; exact y
      · intro y
        exact ⟨by omega, Or.inr ⟨by omega, by omega, by rw [show 8 + i - 8 = i by omega]; exact y⟩⟩)
    rw [hP.2.2.2.2.2.1, hP.2.2.2.2.2.2.1, if_neg hw]
    exact kk
