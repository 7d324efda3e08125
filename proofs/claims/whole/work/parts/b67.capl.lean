/-! captured variables, the two loops -/
theorem c_unitAt {n : Nat} {c : cd_S} {u : Nat} (h : u < 60) : f_X2_unitAt n c (nI u) = some (u, c) := by
  unfold f_X2_unitAt f_X2_unitAt_J19
  rw [if_neg (show ¬ nI u < 0 from nI_nn (by omega)), if_neg (show ¬ (60 : Int32) ≤ nI u from fun y => absurd ((nI_leI (a := 60) (by decide) (by omega)).mp y) (by omega)), c_ld65 h, bs_some, Nat.zero_add]
theorem c_capL {n : Nat} {c : cd_S} {u q : Nat} {key : Int32} (hq : cI c 299 u = nI q) (hq13 : q ≤ 13) : ∀ (d j i : Nat) (z : Int32), i + d = q → d < j → (z = 0 ∨ z = 1) → ∃ z', (z' = 0 ∨ z' = 1) ∧ f_X9_capture_L4 n u key j c z (nI i) = some (c, z', nI q) ∧ (z' = 1 ↔ (z = 1 ∨ ∃ x, i ≤ x ∧ x < q ∧ cAr c 300 u x = key)) := by
  intro d
  induction d with
  | zero =>
    intro j i z hi hj hz
    obtain ⟨j, rfl⟩ : ∃ r, j = r + 1 := ⟨j - 1, by omega⟩
    obtain rfl : i = q := by omega
    refine ⟨z, hz, ?_, ⟨Or.inl, ?_⟩⟩
    · rw [u_X9_capture_L4, hq, if_pos ((nI_leI (by omega) (by omega)).mpr (Nat.le_refl _))]
    · rintro (h | ⟨x, h1, h2, -⟩)
      · exact h
      · omega
  | succ d ih =>
    intro j i z hi hj hz
    obtain ⟨j, rfl⟩ : ∃ r, j = r + 1 := ⟨j - 1, by omega⟩
    rw [u_X9_capture_L4, hq, if_neg (fun y => absurd ((nI_leI (by omega) (by omega)).mp y) (by omega))]
    unfold f_X9_capture_J26 f_X9_capture_J31
    rw [nI_1]
    have step : ∀ y : Int32, (y = 0 ∨ y = 1) → (y = 1 ↔ (z = 1 ∨ cAr c 300 u i = key)) → ∃ z', (z' = 0 ∨ z' = 1) ∧ f_X9_capture_L4 n u key j c y (nI (i + 1)) = some (c, z', nI q) ∧ (z' = 1 ↔ (z = 1 ∨ ∃ x, i ≤ x ∧ x < q ∧ cAr c 300 u x = key)) := by
      intro y hy h1
      obtain ⟨z', a1, a2, a3⟩ := ih j (i + 1) y (by omega) (by omega) hy
      refine ⟨z', a1, a2, a3.trans ?_⟩
      rw [h1]
      constructor
      · rintro ((h | h) | ⟨x, x1, x2, x3⟩)
        · exact Or.inl h
        · exact Or.inr ⟨i, Nat.le_refl _, by omega, h⟩
        · exact Or.inr ⟨x, by omega, x2, x3⟩
      · rintro (h | ⟨x, x1, x2, x3⟩)
        · exact Or.inl (Or.inl h)
        · by_cases hx : x = i
          · rw [hx] at x3; exact Or.inl (Or.inr x3)
          · exact Or.inr ⟨x, by omega, x2, x3⟩
    rcases hz with rfl | rfl
    · rw [if_pos rfl, c_ld300 (by omega), bs_some]
      by_cases hk : cAr c 300 u i = key
      · rw [if_pos hk]
        exact step 1 (Or.inr rfl) ⟨fun _ => Or.inr hk, fun _ => rfl⟩
      · rw [if_neg hk]
        exact step 0 (Or.inl rfl) ⟨fun y => absurd y (by decide), fun y => absurd y (by rintro (y | y); exact absurd y (by decide); exact hk y)⟩
    · rw [if_neg ne10]
      exact step 1 (Or.inr rfl) ⟨fun _ => Or.inl rfl, fun _ => rfl⟩
theorem m_capL {n : Nat} {m : md_S} {u v q : Nat} (hq : mA m 44 u = nI q) (hq13 : q ≤ 13) (hu : u < 60) : ∀ (d j i : Nat) (z : Int32), i + d = q → d < j → (z = 0 ∨ z = 1) → ∃ z', (z' = 0 ∨ z' = 1) ∧ f_X12_captures_L20 n (nI v) (nI u) j m z (nI i) = some (m, z', nI q) ∧ (z' = 1 ↔ (z = 1 ∨ ∃ x, i ≤ x ∧ x < q ∧ mA m 45 (16 * u + x) = nI v)) := by
  intro d
  induction d with
  | zero =>
    intro j i z hi hj hz
    obtain ⟨j, rfl⟩ : ∃ r, j = r + 1 := ⟨j - 1, by omega⟩
    obtain rfl : i = q := by omega
    refine ⟨z, hz, ?_, ⟨Or.inl, ?_⟩⟩
    · rw [u_X12_captures_L20, m_ld44 hu, bs_some, hq, if_pos ((nI_leI (by omega) (by omega)).mpr (Nat.le_refl _))]
    · rintro (h | ⟨x, h1, h2, -⟩)
      · exact h
      · omega
  | succ d ih =>
    intro j i z hi hj hz
    obtain ⟨j, rfl⟩ : ∃ r, j = r + 1 := ⟨j - 1, by omega⟩
    rw [u_X12_captures_L20, m_ld44 hu, bs_some, hq, if_neg (fun y => absurd ((nI_leI (by omega) (by omega)).mp y) (by omega))]
    unfold f_X12_captures_J51 f_X12_captures_J56
    rw [nI_1]
    have step : ∀ y : Int32, (y = 0 ∨ y = 1) → (y = 1 ↔ (z = 1 ∨ mA m 45 (16 * u + i) = nI v)) → ∃ z', (z' = 0 ∨ z' = 1) ∧ f_X12_captures_L20 n (nI v) (nI u) j m y (nI (i + 1)) = some (m, z', nI q) ∧ (z' = 1 ↔ (z = 1 ∨ ∃ x, i ≤ x ∧ x < q ∧ mA m 45 (16 * u + x) = nI v)) := by
      intro y hy h1
      obtain ⟨z', a1, a2, a3⟩ := ih j (i + 1) y (by omega) (by omega) hy
      refine ⟨z', a1, a2, a3.trans ?_⟩
      rw [h1]
      constructor
      · rintro ((h | h) | ⟨x, x1, x2, x3⟩)
        · exact Or.inl h
        · exact Or.inr ⟨i, Nat.le_refl _, by omega, h⟩
        · exact Or.inr ⟨x, by omega, x2, x3⟩
      · rintro (h | ⟨x, x1, x2, x3⟩)
        · exact Or.inl (Or.inl h)
        · by_cases hx : x = i
          · rw [hx] at x3; exact Or.inl (Or.inr x3)
          · exact Or.inr ⟨x, by omega, x2, x3⟩
    rcases hz with rfl | rfl
    · rw [if_pos rfl, show (16 : Int32) = nI 16 from rfl, nI_mul, nI_add, m_ld45 (by omega), bs_some]
      by_cases hk : mA m 45 (16 * u + i) = nI v
      · rw [if_pos hk]
        exact step 1 (Or.inr rfl) ⟨fun _ => Or.inr hk, fun _ => rfl⟩
      · rw [if_neg hk]
        exact step 0 (Or.inl rfl) ⟨fun y => absurd y (by decide), fun y => absurd y (by rintro (y | y); exact absurd y (by decide); exact hk y)⟩
    · rw [if_neg ne10]
      exact step 1 (Or.inr rfl) ⟨fun _ => Or.inl rfl, fun _ => rfl⟩
theorem ST.kvinj {c : cd_S} {m : md_S} {O : List Nat} {mc k kl v v2 : Nat} (h : ST c m O mc k kl) (hv : v < mN m 50) (hv2 : v2 < mN m 50) (e : kv m v = kv m v2) : v = v2 := by
  rcases Nat.lt_trichotomy v v2 with hl | hl | hl
  · exact absurd e ((h.vr v2 hv2).2.2.2 v hl)
  · exact hl
  · exact absurd e.symm ((h.vr v hv).2.2.2 v2 hl)
/-- one unit of the chain -/
theorem cap_one {n : Nat} {c : cd_S} {m : md_S} {O : List Nat} {mc k kl u v : Nat} (hn : 5000 ≤ n) (h : ST c m O mc k kl) (hu : AN m u (mN m 64)) (hv : v < mN m 50) (ho : aN m 51 v < u) (hsc : (∃ r, AN m r (mN m 64) ∧ mA m 36 r = 0 ∧ mA m 55 r = nI v) ∨ ∃ i, i < mN m 56 ∧ mA m 57 i = nI v) : ∃ c' m', f_X9_capture n c u (kv m v) = some (0, c') ∧ (∀ (lp : md_S → Int32 → Option (md_S × Int32)), (Option.bind (f_X12_captures_L20 n (nI v) (nI u) n m 0 0) fun q5 => if q5.2.1 = 0 then (Option.bind (mldA q5.1 44 (nI u)) fun v6 => Option.bind (mstA q5.1 45 ((((16 : Int32) * (nI u)) + v6)) (nI v)) fun σ7 => Option.bind (mldA σ7 44 (nI u)) fun v8 => Option.bind (mstA σ7 44 (nI u) ((v8 + 1))) fun σ9 => f_X12_captures_J94 n (nI v) lp σ9 (nI u)) else (f_X12_captures_J94 n (nI v) lp q5.1 (nI u))) = f_X12_captures_J94 n (nI v) lp m' (nI u)) ∧ ST c' m' O mc k kl ∧ GR c c' m m' ∧ cd_fr [299, 300] [] c c' ∧ md_fr [44, 45] m m' ∧ (∃ y, y < aN m' 44 u ∧ aN m' 45 (16 * u + y) = v) ∧ ∀ q, q < mN m 35 → ∀ x, x < aN m' 44 q → x < aN m 44 q ∨ (q = u ∧ aN m' 45 (16 * q + x) = v) := by
  obtain ⟨q62, q35, q50, -⟩ := h.nv
  have hnow := h.now
  have hul := h.anle u hu
  obtain ⟨-, -, -, -, -, -, -, -, -, ⟨q, q1, q2, q3, q4⟩, -⟩ := h.ur u (by omega)
  obtain ⟨z1, a1, a2, a3⟩ := c_capL (n := n) (key := kv m v) q2 q1 q n 0 0 (by omega) (by omega) (Or.inl rfl)
  obtain ⟨z2, b1, b2, b3⟩ := m_capL (n := n) (v := v) q3 q1 (by omega) q n 0 0 (by omega) (by omega) (Or.inl rfl)
  have hiff : (∃ x, 0 ≤ x ∧ x < q ∧ cAr c 300 u x = kv m v) ↔ ∃ x, 0 ≤ x ∧ x < q ∧ mA m 45 (16 * u + x) = nI v := by
    constructor
    · rintro ⟨x, x1, x2, x3⟩
      obtain ⟨v', v1, v2, v3, v4⟩ := q4 x x2
      rw [v3] at x3
      have := h.kvinj v1 hv x3
      rw [this] at v2
      exact ⟨x, x1, x2, v2⟩
    · rintro ⟨x, x1, x2, x3⟩
      obtain ⟨v', v1, v2, v3, v4⟩ := q4 x x2
      have : v' = v := (nI_eq (by omega) (by omega)).mp (v2.symm.trans x3)
      rw [this] at v3
      exact ⟨x, x1, x2, v3⟩
  have n0 : ¬ (0 : Int32) = 1 := by decide
  have hz : z1 = z2 := by
    have e1 : z1 = 1 ↔ z2 = 1 := by
      rw [a3, b3]
      simp only [n0, false_or]
      exact hiff
    rcases a1 with rfl | rfl <;> rcases b1 with rfl | rfl
    · rfl
    · exact absurd (e1.mpr rfl) (by decide)
    · exact absurd (e1.mp rfl) (by decide)
    · rfl
  unfold f_X9_capture
  rw [show nI 0 = 0 from rfl] at a2 b2
  rw [a2, bs_some]
  dsimp only
  subst hz
  rcases a1 with rfl | rfl
  · have hnew : ∀ x, x < q → mA m 45 (16 * u + x) ≠ nI v := fun x hx e => by
      have := b3.mpr (Or.inr ⟨x, by omega, hx, e⟩)
      exact absurd this (by decide)
    obtain ⟨r1, r2, r3⟩ := h.cap hu hv ho hsc q3 q1 hnew
    refine ⟨_, _, ?_, fun lp => ?_, r2, r3, ?_, ?_, ⟨q, ?_, ?_⟩, fun q' hq' x hx => ?_⟩
    · have e9 : cI (cSA c 300 u q (kv m v)) 299 u = nI q := q2
      rw [if_pos rfl, q2, if_neg (show ¬ (13 : Int32) ≤ nI q from fun y => absurd ((nI_leI (a := 13) (by decide) (by omega)).mp y) (by omega)), c_st300 (by omega), bs_some, e9, nI_1, bs_some]
    · have e9 : mA (mSA m 45 (16 * u + q) (nI v)) 44 u = nI q := by rw [mA_SAo (by decide)]; exact q3
      rw [b2, bs_some]
      dsimp only
      rw [if_pos rfl, m_ld44 (by omega), bs_some, q3, show (16 : Int32) = nI 16 from rfl, nI_mul, nI_add, m_st45 (by omega), bs_some, m_ld44 (by omega), bs_some, e9, nI_1, m_st44 (by omega), bs_some]
    · exact cd_fr_SI (cd_fr_SA (cd_fr_refl _ _ _) (by decide) _ _ _) (by decide) (by decide) _ _
    · exact md_fr_SA (md_fr_SA (md_fr_refl _ _) (by decide) _ _) (by decide) _ _
    · rw [aN_of (mA_SAe) (by omega)]; omega
    · rw [aN, mA_SAo (by decide), mA_SAe, nI_clamp (by omega)]
    · by_cases hqu : q' = u
      · rw [hqu, aN_of (mA_SAe) (by omega)] at hx
        rw [hqu]
        by_cases hxq : x = q
        · right
          rw [hxq]
          exact ⟨rfl, by rw [aN, mA_SAo (by decide), mA_SAe, nI_clamp (by omega)]⟩
        · left
          rw [aN_of q3 (by omega)]; omega
      · left
        rw [aN, mA_SAi hqu, mA_SAo (by decide)] at hx
        exact hx
  · refine ⟨c, m, by rw [if_neg ne10], fun lp => ?_, h, GR.refl c m, cd_fr_refl _ _ _, md_fr_refl _ _, ?_, fun q' hq' x hx => Or.inl hx⟩
    rotate_left
    · rcases b3.mp rfl with z | ⟨x, x1, x2, x3⟩
      · exact absurd z (by decide)
      · exact ⟨x, by rw [aN_of q3 (by omega)]; exact x2, aN_of x3 (by omega)⟩
    rw [b2, bs_some]
    dsimp only
    rw [if_neg ne10]
