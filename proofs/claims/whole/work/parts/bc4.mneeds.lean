/-! who needs a context: the model -/
def MS (m : md_S) (U : Nat) : Prop := mI m 35 = nI U ∧ U ≤ 60 ∧ mN m 35 = U ∧ mI m 65 = nI (mN m 65) ∧ mN m 65 ≤ 900 ∧ NU m ∧ (∀ j, j < mN m 65 → WFE m (nE m j)) ∧ mN m 60 ≤ 400
theorem m_isOf {n : Nat} {m m1 : md_S} {U i v : Nat} {F : List Nat} (hF : ∀ x, x ∈ [36, 39, 43, 61, 66, 68, 69] → x ∉ F) (hf : md_fr F m m1) (h : MS m U) (hi : i < mN m 65) (hv : v < U) : ∃ x, f_X12_isOfGroup n m1 (nI i) (nI v) = some (x, m1) ∧ bI (BG m (mA m 66 i) (mA m 68 i) (mA m 69 i) v) x := by
  obtain ⟨a1, a2, a3, a4, a5, a6, a7, a8⟩ := h
  have A : ∀ f, f ∈ [36, 39, 43, 61, 66, 68, 69] → ∀ x, mA m1 f x = mA m f x := fun f hf' x => md_frA hf (hF f hf') x
  have L : ∀ f, f ∈ [36, 39, 43, 61, 66, 68, 69] → ∀ x, mL m1 f x = mL m f x := fun f hf' x => md_frL hf (hF f hf') x
  unfold f_X12_isOfGroup
  rw [m_ld66 (by omega), bs_some, A 66 (by decide)]
  by_cases h7 : mA m 66 i = 7
  · obtain ⟨a, ea, ha⟩ := (a7 i hi).1 h7
    have ea : mA m 68 i = nI a := ea
    have n8 : ¬ (7 : Int32) = 8 := by decide
    have n23 : ¬ (7 : Int32) = 23 := by decide
    have hB : BG m (mA m 66 i) (mA m 68 i) (mA m 69 i) v ↔ (mA m 36 v = 0 ∧ mL m 43 v = mL m 61 a ∧ mA m 39 v = mA m 69 i) := by
      unfold BG
      rw [h7, ea, oN_nI (by omega)]
      exact ⟨fun y => by
        rcases y with ⟨-, y⟩ | ⟨y, -⟩ | ⟨y, -⟩
        · exact y
        · exact absurd y n8
        · exact absurd y n23, fun y => Or.inl ⟨rfl, y⟩⟩
    rw [ea] at hB ⊢
    rw [if_pos h7, m_ld36 (by omega), bs_some, A 36 (by decide)]
    by_cases h0 : mA m 36 v = 0
    · rw [if_pos h0, m_ld43 (by omega), bs_some, m_ld68 (by omega), bs_some, A 68 (by decide), ea, m_ld61 (by omega), bs_some, L 43 (by decide), L 61 (by decide)]
      by_cases hl : mL m 43 v = mL m 61 a
      · rw [if_pos (lgc.mpr hl), m_ld39 (by omega), bs_some, m_ld69 (by omega), bs_some, A 39 (by decide), A 69 (by decide)]
        by_cases h9 : mA m 39 v = mA m 69 i
        · rw [if_pos h9]; exact ⟨1, rfl, bI.t (hB.mpr ⟨h0, hl, h9⟩)⟩
        · rw [if_neg h9]; exact ⟨0, rfl, bI.f (fun y => h9 (hB.mp y).2.2)⟩
      · rw [if_neg (fun y => hl (lgc.mp y))]; exact ⟨0, rfl, bI.f (fun y => hl (hB.mp y).2.1)⟩
    · rw [if_neg h0]; exact ⟨0, rfl, bI.f (fun y => h0 (hB.mp y).1)⟩
  · rw [if_neg h7]
    by_cases h8 : mA m 66 i = 8
    · have hB : BG m (mA m 66 i) (mA m 68 i) (mA m 69 i) v ↔ (mA m 36 v = 1 ∧ mA m 39 v = mA m 68 i) := by
        unfold BG
        exact ⟨fun y => by
          rcases y with ⟨y, -⟩ | ⟨-, y⟩ | ⟨y, -⟩
          · exact absurd y h7
          · exact y
          · rw [h8] at y; exact absurd y (by decide), fun y => Or.inr (Or.inl ⟨h8, y⟩)⟩
      rw [if_pos h8, m_ld36 (by omega), bs_some, A 36 (by decide)]
      by_cases h0 : mA m 36 v = 1
      · rw [if_pos h0, m_ld39 (by omega), bs_some, m_ld68 (by omega), bs_some, A 39 (by decide), A 68 (by decide)]
        by_cases h9 : mA m 39 v = mA m 68 i
        · rw [if_pos h9]; exact ⟨1, rfl, bI.t (hB.mpr ⟨h0, h9⟩)⟩
        · rw [if_neg h9]; exact ⟨0, rfl, bI.f (fun y => h9 (hB.mp y).2)⟩
      · rw [if_neg h0]; exact ⟨0, rfl, bI.f (fun y => h0 (hB.mp y).1)⟩
    · rw [if_neg h8]
      by_cases h23 : mA m 66 i = 23
      · have hB : BG m (mA m 66 i) (mA m 68 i) (mA m 69 i) v ↔ (mA m 36 v = 1 ∧ mA m 39 v = 0) := by
          unfold BG
          exact ⟨fun y => by
            rcases y with ⟨y, -⟩ | ⟨y, -⟩ | ⟨-, y⟩
            · exact absurd y h7
            · exact absurd y h8
            · exact y, fun y => Or.inr (Or.inr ⟨h23, y⟩)⟩
        rw [if_pos h23, m_ld36 (by omega), bs_some, A 36 (by decide)]
        by_cases h0 : mA m 36 v = 1
        · rw [if_pos h0, m_ld39 (by omega), bs_some, A 39 (by decide)]
          by_cases h9 : mA m 39 v = 0
          · rw [if_pos h9]; exact ⟨1, rfl, bI.t (hB.mpr ⟨h0, h9⟩)⟩
          · rw [if_neg h9]; exact ⟨0, rfl, bI.f (fun y => h9 (hB.mp y).2)⟩
        · rw [if_neg h0]; exact ⟨0, rfl, bI.f (fun y => h0 (hB.mp y).1)⟩
      · rw [if_neg h23]
        refine ⟨0, rfl, bI.f (fun y => ?_)⟩
        rcases y with ⟨y, -⟩ | ⟨y, -⟩ | ⟨y, -⟩
        · exact h7 y
        · exact h8 y
        · exact h23 y
def nM (m : md_S) (u : Nat) : Prop := mA m 47 u ≠ 0
theorem m_gnL {n : Nat} {m m1 : md_S} {U i : Nat} {F : List Nat} (hF : ∀ x, x ∈ [35, 36, 39, 43, 61, 66, 68, 69] → x ∉ F) (hf : md_fr F m m1) (h : MS m U) (hi : i < mN m 65) : ∀ (d j v : Nat), v + d = U → d < j → (∀ y, y < v → ¬ (BG m (mA m 66 i) (mA m 68 i) (mA m 69 i) y ∧ nM m1 y)) → ((∃ y, y < U ∧ BG m (mA m 66 i) (mA m 68 i) (mA m 69 i) y ∧ nM m1 y) ∧ f_X12_groupNeeds_L2 n (nI i) j m1 (nI v) = some (Sum.inl (1, m1))) ∨ ((¬ ∃ y, y < U ∧ BG m (mA m 66 i) (mA m 68 i) (mA m 69 i) y ∧ nM m1 y) ∧ f_X12_groupNeeds_L2 n (nI i) j m1 (nI v) = some (Sum.inr (m1, nI U))) := by
  have hU60 := h.2.1
  have h35 : mI m1 35 = nI U := by rw [md_frI hf (hF 35 (by decide))]; exact h.1
  intro d
  induction d with
  | zero =>
    intro j v hv hj hy
    obtain ⟨j, rfl⟩ : ∃ q, j = q + 1 := ⟨j - 1, by omega⟩
    right
    obtain rfl : v = U := by omega
    refine ⟨fun ⟨y, y1, y2⟩ => hy y y1 y2, ?_⟩
    rw [u_X12_groupNeeds_L2, h35, if_pos ((nI_leI (by omega) (by omega)).mpr (Nat.le_refl _))]
  | succ d ih =>
    intro j v hv hj hy
    obtain ⟨j, rfl⟩ : ∃ q, j = q + 1 := ⟨j - 1, by omega⟩
    rw [u_X12_groupNeeds_L2, h35, if_neg (fun y => absurd ((nI_leI (by omega) (by omega)).mp y) (by omega)), m_ld47 (by omega), bs_some]
    have next : ¬ (BG m (mA m 66 i) (mA m 68 i) (mA m 69 i) v ∧ nM m1 v) → _ := fun hc => ih j (v + 1) (by omega) (by omega) (fun y hy' => by
      by_cases hyv : y = v
      · rw [hyv]; exact hc
      · exact hy y (by omega))
    by_cases h0 : mA m1 47 v = 0
    · rw [if_pos h0]
      unfold f_X12_groupNeeds_J30
      rw [nI_1]
      exact next (fun y => y.2 h0)
    · rw [if_neg h0]
      obtain ⟨x, x1, x2⟩ := m_isOf (n := n) (v := v) (fun x hx => hF x (List.mem_cons_of_mem _ hx)) hf h hi (by omega)
      rw [x1, bs_some]
      dsimp only
      rcases x2 with ⟨rfl, hb⟩ | ⟨rfl, hb⟩
      · rw [if_neg ne10]
        exact Or.inl ⟨⟨v, by omega, hb, h0⟩, rfl⟩
      · rw [if_pos rfl]
        unfold f_X12_groupNeeds_J30
        rw [nI_1]
        exact next (fun y => hb y.1)
theorem m_groupN {n : Nat} {m m1 : md_S} {U i : Nat} {F : List Nat} (hn : 100 ≤ n) (hF : ∀ x, x ∈ [35, 36, 39, 43, 61, 66, 68, 69] → x ∉ F) (hf : md_fr F m m1) (h : MS m U) (hi : i < mN m 65) : ∃ x, f_X12_groupNeeds n m1 (nI i) = some (x, m1) ∧ bI (∃ y, y < U ∧ BG m (mA m 66 i) (mA m 68 i) (mA m 69 i) y ∧ nM m1 y) x := by
  unfold f_X12_groupNeeds
  rw [show (0 : Int32) = nI 0 from rfl]
  have := h.2.1
  rcases m_gnL (n := n) hF hf h hi U n 0 (by omega) (by omega) (fun y hy => by omega) with ⟨y1, y2⟩ | ⟨y1, y2⟩
  · rw [y2, bs_some]; exact ⟨1, rfl, bI.t y1⟩
  · rw [y2, bs_some]; exact ⟨0, rfl, bI.f y1⟩
theorem m_nodeN {n : Nat} {m m1 : md_S} {U i : Nat} {F : List Nat} (hn : 100 ≤ n) (hF : ∀ x, x ∈ [35, 36, 39, 43, 61, 66, 68, 69] → x ∉ F) (hf : md_fr F m m1) (h : MS m U) (hi : i < mN m 65) : ∃ x, f_X12_nodeNeeds n m1 (nI i) = some (x, m1) ∧ bI (HE m (nM m1) (nE m i)) x := by
  have h0 := h
  obtain ⟨a1, a2, a3, a4, a5, a6, a7, a8⟩ := h
  unfold f_X12_nodeNeeds
  rw [m_ld66 (by omega), bs_some, md_frA hf (hF 66 (by decide))]
  by_cases h25 : mA m 66 i = 25
  · rw [if_pos h25]; exact ⟨1, rfl, bI.t (Or.inl h25)⟩
  rw [if_neg h25]
  by_cases h26 : mA m 66 i = 26
  · rw [if_pos h26]; exact ⟨1, rfl, bI.t (Or.inr (Or.inl h26))⟩
  rw [if_neg h26]
  by_cases h27 : mA m 66 i = 27
  · rw [if_pos h27]; exact ⟨1, rfl, bI.t (Or.inr (Or.inr (Or.inl h27)))⟩
  rw [if_neg h27]
  by_cases h10 : mA m 66 i = 10
  · obtain ⟨a, ea, ha⟩ := (a7 i hi).2 h10
    have ea : mA m 68 i = nI a := ea
    have hH : HE m (nM m1) (nE m i) ↔ (mA m 36 a = 3 ∧ nM m1 a) := by
      have e2 : oN (nE m i).2.1 = a := by
        show oN (mA m 68 i) = a
        rw [ea, oN_nI (by omega)]
      constructor
      · rintro (y | y | y | y | ⟨v, -, y, -⟩)
        · exact absurd y h25
        · exact absurd y h26
        · exact absurd y h27
        · rw [e2] at y; exact y.2
        · have h10' : (nE m i).1 = 10 := h10
          rcases y with ⟨y, -⟩ | ⟨y, -⟩ | ⟨y, -⟩ <;> rw [h10'] at y <;> exact absurd y (by decide)
      · intro y
        refine Or.inr (Or.inr (Or.inr (Or.inl ⟨h10, ?_⟩)))
        rw [e2]; exact y
    rw [if_pos h10, m_ld68 (by omega), bs_some, md_frA hf (hF 68 (by decide)), ea, m_ld36 (by omega), bs_some, md_frA hf (hF 36 (by decide))]
    by_cases h3 : mA m 36 a = 3
    · rw [if_pos h3, bs_some, m_ld47 (by omega), bs_some]
      by_cases hs : mA m1 47 a = 0
      · rw [if_pos hs]; exact ⟨0, rfl, bI.f (fun y => (hH.mp y).2 hs)⟩
      · rw [if_neg hs]; exact ⟨1, rfl, bI.t (hH.mpr ⟨h3, hs⟩)⟩
    · rw [if_neg h3]; exact ⟨0, rfl, bI.f (fun y => h3 (hH.mp y).1)⟩
  rw [if_neg h10]
  obtain ⟨x, x1, x2⟩ := m_groupN (n := n) hn hF hf h0 hi
  rw [x1, bs_some]
  dsimp only
  rw [x2.zb, bs_some]
  refine ⟨x, rfl, x2.iff ⟨fun ⟨v, v1, v2⟩ => Or.inr (Or.inr (Or.inr (Or.inr ⟨v, by omega, v2⟩))), ?_⟩⟩
  rintro (y | y | y | y | ⟨v, v1, v2⟩)
  · exact absurd y h25
  · exact absurd y h26
  · exact absurd y h27
  · exact absurd y.1 h10
  · exact ⟨v, by omega, v2⟩
theorem m_areOf {n : Nat} {m m1 : md_S} {u v : Nat} {F : List Nat} (hF : ∀ x, x ∈ [36, 39, 43] → x ∉ F) (hf : md_fr F m m1) (hu : u < 60) (hv : v < 60) : ∃ x, f_X12_areOfOne n m1 (nI u) (nI v) = some (x, m1) ∧ bI (SG m u v) x := by
  have A : ∀ f, f ∈ [36, 39, 43] → ∀ x, mA m1 f x = mA m f x := fun f hf' x => md_frA hf (hF f hf') x
  unfold f_X12_areOfOne
  rw [m_ld36 hu, bs_some, m_ld36 hv, bs_some, A 36 (by decide), A 36 (by decide)]
  by_cases h1 : mA m 36 u = mA m 36 v
  · rw [if_pos h1, m_ld39 hu, bs_some, m_ld39 hv, bs_some, A 39 (by decide), A 39 (by decide)]
    by_cases h2 : mA m 39 u = mA m 39 v
    · rw [if_pos h2, bs_some]
      by_cases h3 : mA m 36 u = 1
      · rw [if_pos h3]; exact ⟨1, rfl, bI.t ⟨h1, h2, Or.inl h3⟩⟩
      · rw [if_neg h3, bs_some]
        by_cases h4 : mA m 36 u = 0
        · rw [if_pos h4, m_ld43 hu, bs_some, m_ld43 hv, bs_some, md_frL hf (hF 43 (by decide)), md_frL hf (hF 43 (by decide))]
          by_cases h5 : mL m 43 u = mL m 43 v
          · rw [if_pos (lgc.mpr h5)]; exact ⟨1, rfl, bI.t ⟨h1, h2, Or.inr ⟨h4, h5⟩⟩⟩
          · rw [if_neg (fun y => h5 (lgc.mp y))]; exact ⟨0, rfl, bI.f (fun y => y.2.2.elim h3 (fun z => h5 z.2))⟩
        · rw [if_neg h4]; exact ⟨0, rfl, bI.f (fun y => y.2.2.elim h3 (fun z => h4 z.1))⟩
    · rw [if_neg h2]; exact ⟨0, rfl, bI.f (fun y => h2 y.2.1)⟩
  · rw [if_neg h1]; exact ⟨0, rfl, bI.f (fun y => h1 y.1)⟩
