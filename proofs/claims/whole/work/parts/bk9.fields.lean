/-! the field of a name, with its bound -/
theorem fldI2 {n : Nat} {c : cd_S} {m : md_S} {mc i k : Nat} {v u : Int64} {l5 : Int32} (hn : 5000 ≤ n) (h : MDR c m mc) (hi : i < mc) (hk4 : k ≤ 4) (h70 : cAr c 70 0 i = nI k) (h28 : mA m 28 i = nI k) (hvu : NR v u) : ∀ (e j j2 x : Nat), x + e = k → e < j → e < j2 → (∃ s, (s < 100 ∧ s < ftot m c i) ∧ f_X2_fieldSlot_L25 n v (nI i) l5 j c (nI x) = some (Sum.inl (nI s, c)) ∧ f_X12_fieldOf_L12 n u (nI i) j2 m (nI x) = some (Sum.inl (nI s, m))) ∨ (f_X2_fieldSlot_L25 n v (nI i) l5 j c (nI x) = some (Sum.inr (c, nI k)) ∧ f_X12_fieldOf_L12 n u (nI i) j2 m (nI x) = some (Sum.inr (m, nI k))) := by
  have hh := h
  obtain ⟨hmc8, -, -, hq⟩ := hh
  obtain ⟨-, -, -, ⟨k', k1, k2, k3, k4⟩, -, ⟨β, b1, b2, -⟩⟩ := hq i hi
  have hkk : k' = k := (nI_eq (by omega) (by omega)).mp (k2.symm.trans h70)
  rw [hkk] at k4
  intro e
  induction e with
  | zero =>
    intro j j2 x hx hj hj2
    obtain ⟨j, rfl⟩ : ∃ q, j = q + 1 := ⟨j - 1, by omega⟩
    obtain ⟨j2, rfl⟩ : ∃ q, j2 = q + 1 := ⟨j2 - 1, by omega⟩
    obtain rfl : x = k := by omega
    have hle : nI x ≤ nI x := (nI_leI (by omega) (by omega)).mpr (Nat.le_refl _)
    right
    exact ⟨by rw [u_X2_fieldSlot_L25, c_ld70 (by omega), bs_some, h70, if_pos hle], by rw [u_X12_fieldOf_L12, m_ld28 (by omega), bs_some, h28, if_pos hle]⟩
  | succ e ih =>
    intro j j2 x hx hj hj2
    obtain ⟨j, rfl⟩ : ∃ q, j = q + 1 := ⟨j - 1, by omega⟩
    obtain ⟨j2, rfl⟩ : ∃ q, j2 = q + 1 := ⟨j2 - 1, by omega⟩
    have hnle : ¬ nI k ≤ nI x := fun y => absurd ((nI_leI (by omega) (by omega)).mp y) (by omega)
    have e1 : nI i * 4 + nI x = nI (4 * i + x) := by rw [show (4 : Int32) = nI 4 from rfl, nI_mul, nI_add, Nat.mul_comm]
    have e2 : (4 : Int32) * nI i + nI x = nI (4 * i + x) := by rw [show (4 : Int32) = nI 4 from rfl, nI_mul, nI_add]
    have ihh := ih j j2 (x + 1) (by omega) (by omega) (by omega)
    rw [u_X2_fieldSlot_L25, c_ld70 (by omega), bs_some, h70, if_neg hnle, e1, c_ld69 (by omega), bs_some, u_X12_fieldOf_L12, m_ld28 (by omega), bs_some, h28, if_neg hnle, e2, m_ld29 (by omega), bs_some]
    have hnr := k4 x (by omega)
    by_cases hn1 : cLr c 69 0 (4 * i + x) = v
    · have hn2 : mL m 29 (4 * i + x) = u := (NR.iff hnr hvu).mp hn1
      rw [if_pos (lgc.mpr hn1), if_pos (lgc.mpr hn2), c_ld71 (by omega), bs_some, fab hn h hi, bs_some, b2, nI_add]
      exact Or.inl ⟨β + x, ⟨by omega, by unfold ftot; rw [b2, h70, nI_clamp (by omega), nI_clamp (by omega)]; omega⟩, rfl, rfl⟩
    · have hn2 : ¬ mL m 29 (4 * i + x) = u := fun y => hn1 ((NR.iff hnr hvu).mpr y)
      rw [if_neg (fun y => hn1 (lgc.mp y)), if_neg (fun y => hn2 (lgc.mp y)), nI_1]
      exact ihh
theorem fldO2 {n : Nat} {c : cd_S} {m : md_S} {mc : Nat} {v u : Int64} (hn : 5000 ≤ n) (h : MDR c m mc) (hvu : NR v u) : ∀ (t i : Nat), i ≤ t → i < mc → ∀ (j j2 l5 : Nat), i + 1 < j → i + 1 < j2 → l5 + i ≤ 7 → (∃ s, (s < 100 ∧ s < ftot m c i) ∧ f_X2_fieldSlot_L6 n v j c (nI i) (nI l5) = some (Sum.inl (nI s, c)) ∧ f_X12_fieldOf_L3 n u j2 m (nI i) = some (Sum.inl (nI s, m))) ∨ (∃ a b, f_X2_fieldSlot_L6 n v j c (nI i) (nI l5) = some (Sum.inr (c, a, b)) ∧ f_X12_fieldOf_L3 n u j2 m (nI i) = some (Sum.inr (m, -1))) := by
  have hh := h
  obtain ⟨hmc8, h74, -, hq⟩ := hh
  have stop : ∀ (j j2 : Nat) (l5 : Int32), 0 < j → 0 < j2 → (∃ a b, f_X2_fieldSlot_L6 n v j c (-1) l5 = some (Sum.inr (c, a, b)) ∧ f_X12_fieldOf_L3 n u j2 m (-1) = some (Sum.inr (m, -1))) := by
    intro j j2 l5 hj hj2
    obtain ⟨j, rfl⟩ : ∃ q, j = q + 1 := ⟨j - 1, by omega⟩
    obtain ⟨j2, rfl⟩ : ∃ q, j2 = q + 1 := ⟨j2 - 1, by omega⟩
    rw [u_X2_fieldSlot_L6, u_X12_fieldOf_L3, if_pos (show (-1 : Int32) = -1 from rfl)]
    by_cases h8 : (8 : Int32) ≤ l5
    · rw [if_pos h8]; exact ⟨_, _, rfl, rfl⟩
    · rw [if_neg h8]
      unfold f_X2_isModule
      rw [if_pos (show (-1 : Int32) < 0 from by decide), bs_some]
      exact ⟨_, _, rfl, rfl⟩
  intro t
  induction t with
  | zero =>
    intro i hit him j j2 l5 hj hj2 hl
    obtain rfl : i = 0 := by omega
    obtain ⟨j, rfl⟩ : ∃ q, j = q + 1 := ⟨j - 1, by omega⟩
    obtain ⟨j2, rfl⟩ : ∃ q, j2 = q + 1 := ⟨j2 - 1, by omega⟩
    obtain ⟨-, h68, hsup, ⟨k, k1, k2, k3, -⟩, -⟩ := hq 0 him
    have hm1 : mA m 27 0 = -1 := by
      rcases hsup with y | ⟨p, p1, -⟩
      · exact y
      · omega
    rw [u_X2_fieldSlot_L6, u_X12_fieldOf_L3, if_neg (show ¬ (8 : Int32) ≤ nI l5 from fun y => absurd ((nI_leI (a := 8) (by omega) (by omega)).mp y) (by omega)), c_isModule hmc8 h74 him, bs_some, if_neg (nI_nem1 (by omega))]
    dsimp only
    rw [if_neg ne10]
    rcases fldI2 (n := n) (l5 := nI l5) hn h him k1 k2 k3 hvu k n n 0 (by omega) (by omega) (by omega) with ⟨s, s1, s2, s3⟩ | ⟨s2, s3⟩
    · rw [show f_X2_fieldSlot_L25 n v (nI 0) (nI l5) n c 0 = _ from s2, show f_X12_fieldOf_L12 n u (nI 0) n m 0 = _ from s3, bs_some, bs_some]
      exact Or.inl ⟨s, s1, rfl, rfl⟩
    · rw [show f_X2_fieldSlot_L25 n v (nI 0) (nI l5) n c 0 = _ from s2, show f_X12_fieldOf_L12 n u (nI 0) n m 0 = _ from s3, bs_some, bs_some]
      dsimp only [Sum.elim]
      rw [c_ld68 (by omega), bs_some, m_ld27 (by omega), bs_some, h68, hm1]
      exact Or.inr (stop j j2 _ (by omega) (by omega))
  | succ t ih =>
    intro i hit him j j2 l5 hj hj2 hl
    obtain ⟨j, rfl⟩ : ∃ q, j = q + 1 := ⟨j - 1, by omega⟩
    obtain ⟨j2, rfl⟩ : ∃ q, j2 = q + 1 := ⟨j2 - 1, by omega⟩
    obtain ⟨-, h68, hsup, ⟨k, k1, k2, k3, -⟩, -⟩ := hq i him
    rw [u_X2_fieldSlot_L6, u_X12_fieldOf_L3, if_neg (show ¬ (8 : Int32) ≤ nI l5 from fun y => absurd ((nI_leI (a := 8) (by omega) (by omega)).mp y) (by omega)), c_isModule hmc8 h74 him, bs_some, if_neg (nI_nem1 (by omega))]
    dsimp only
    rw [if_neg ne10]
    rcases fldI2 (n := n) (l5 := nI l5) hn h him k1 k2 k3 hvu k n n 0 (by omega) (by omega) (by omega) with ⟨s, s1, s2, s3⟩ | ⟨s2, s3⟩
    · rw [show f_X2_fieldSlot_L25 n v (nI i) (nI l5) n c 0 = _ from s2, show f_X12_fieldOf_L12 n u (nI i) n m 0 = _ from s3, bs_some, bs_some]
      exact Or.inl ⟨s, s1, rfl, rfl⟩
    · rw [show f_X2_fieldSlot_L25 n v (nI i) (nI l5) n c 0 = _ from s2, show f_X12_fieldOf_L12 n u (nI i) n m 0 = _ from s3, bs_some, bs_some]
      dsimp only [Sum.elim]
      rw [c_ld68 (by omega), bs_some, m_ld27 (by omega), bs_some, h68]
      rcases hsup with hm1 | ⟨p, p1, p2⟩
      · rw [hm1]
        exact Or.inr (stop j j2 _ (by omega) (by omega))
      · rw [p2, nI_1]
        rcases ih p (by omega) (by omega) j j2 (l5 + 1) (by omega) (by omega) (by omega) with ⟨s, s4, s5, s6⟩ | z
        · obtain ⟨-, -, -, ⟨k', k1', k2', k3', -⟩, -, ⟨β, b1, b2, b3, b4⟩⟩ := hq i him
          obtain ⟨bp, kp, g1, g2, g3, g4⟩ := b4 p p2 p1
          obtain ⟨-, -, -, ⟨kq, kq1, kq2, kq3, -⟩, -⟩ := hq p (by omega)
          have hkq : kq = kp := (nI_eq (by omega) (by omega)).mp (kq3.symm.trans g2)
          refine Or.inl ⟨s, ⟨s4.1, ?_⟩, s5, s6⟩
          have h1 : ftot m c p = bp + kp := by unfold ftot; rw [g1, kq2, nI_clamp (by omega), nI_clamp (by omega), hkq]
          have h2 : ftot m c i = β + k' := by unfold ftot; rw [b2, k2', nI_clamp (by omega), nI_clamp (by omega)]
          omega
        · exact Or.inr z
theorem fld_ok2 {n : Nat} {c : cd_S} {m : md_S} {mc i : Nat} {v u : Int64} (hn : 5000 ≤ n) (h : MDR c m mc) (hi : i < mc) (hvu : NR v u) : (∃ s, (s < 100 ∧ s < ftot m c i) ∧ f_X2_fieldSlot n c (nI i) v = some (nI s, c) ∧ f_X12_fieldOf n m (nI i) u = some (nI s, m)) ∨ (f_X2_fieldSlot n c (nI i) v = some (-1, c) ∧ f_X12_fieldOf n m (nI i) u = some (-1, m)) := by
  have := h.1
  unfold f_X2_fieldSlot f_X12_fieldOf
  rcases fldO2 (n := n) hn h hvu i i (Nat.le_refl _) hi n n 0 (by omega) (by omega) (by omega) with ⟨s, s1, s2, s3⟩ | ⟨a, b, s2, s3⟩
  · left
    refine ⟨s, s1, ?_, ?_⟩
    · rw [show f_X2_fieldSlot_L6 n v n c (nI i) 0 = _ from s2, bs_some]; rfl
    · rw [s3, bs_some]; rfl
  · right
    refine ⟨?_, ?_⟩
    · rw [show f_X2_fieldSlot_L6 n v n c (nI i) 0 = _ from s2, bs_some]; rfl
    · rw [s3, bs_some]; rfl

