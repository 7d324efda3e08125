/-! which thread goes next: counted, and found -/
def nab (m : md_S) (k : Nat) : Nat := rsum (fun x => if cgm m x = true then 1 else 0) k
theorem nab_le (m : md_S) : ∀ k, nab m k ≤ k
  | 0 => Nat.le_refl _
  | k + 1 => by
      have := nab_le m k
      show nab m k + (if cgm m k = true then 1 else 0) ≤ k + 1
      split <;> omega
theorem ready_L {n K : Nat} {c : cd_S} {m : md_S} (hK : K ≤ 8) (h40 : cI c 40 0 = nI K) (h105 : mI m 105 = nI K) (hT : ∀ x, x < K → THT c m K x) : ∀ (e j j2 i : Nat), i + e = K → e < j → e < j2 → f_X1_choose_L4 n j c (nI (nab m i)) (nI i) = some (c, nI (nab m K), nI K) ∧ f_X12_ready_L4 n j2 m (nI (nab m i)) (nI i) = some (m, nI (nab m K), nI K) := by
  intro e
  induction e with
  | zero =>
    intro j j2 i hi hj hj2
    obtain ⟨j, rfl⟩ : ∃ q, j = q + 1 := ⟨j - 1, by omega⟩
    obtain ⟨j2, rfl⟩ : ∃ q, j2 = q + 1 := ⟨j2 - 1, by omega⟩
    obtain rfl : i = K := by omega
    rw [u_X1_choose_L4, u_X12_ready_L4, h40, h105, if_pos ((nI_leI (by omega) (by omega)).mpr (Nat.le_refl _)), if_pos ((nI_leI (by omega) (by omega)).mpr (Nat.le_refl _))]
    exact ⟨rfl, rfl⟩
  | succ e ih =>
    intro j j2 i hi hj hj2
    obtain ⟨j, rfl⟩ : ∃ q, j = q + 1 := ⟨j - 1, by omega⟩
    obtain ⟨j2, rfl⟩ : ∃ q, j2 = q + 1 := ⟨j2 - 1, by omega⟩
    obtain ⟨a1, a2⟩ := can_ok (n := n) hK hT (x := i) (by omega)
    have ih' := ih j j2 (i + 1) (by omega) (by omega) (by omega)
    have hnl : ¬ nI K ≤ nI i := fun z => absurd ((nI_leI (by omega) (by omega)).mp z) (by omega)
    have hs : nab m (i + 1) = nab m i + (if cgm m i = true then 1 else 0) := rfl
    rw [u_X1_choose_L4, u_X12_ready_L4, h40, h105, if_neg hnl, if_neg hnl, a1, a2, bs_some, bs_some]
    unfold f_X1_choose_J26 f_X12_ready_J26
    dsimp only
    by_cases q : cgm m i = true
    · rw [if_pos q] at hs ⊢
      rw [if_neg ne10, if_neg ne10, nI_1, nI_1, ← hs]
      exact ih'
    · rw [if_neg q] at hs ⊢
      rw [if_pos rfl, if_pos rfl, nI_1, show nI (nab m i) + 0 = nI (nab m (i + 1)) by rw [hs]; exact Int32.add_zero _]
      exact ih'
/-- the k-th of those that can go -/
theorem pick_L {n K : Nat} {c : cd_S} {m : md_S} (hK : K ≤ 8) (h40 : cI c 40 0 = nI K) (hT : ∀ x, x < K → THT c m K x) : ∀ (e j j2 i k : Nat), i + e = K → e < j → e < j2 → nab m i + k < nab m K → ∃ t, t < K ∧ cgm m t = true ∧ (∃ y, f_X1_choose_L76 n j c (nI k) (nI i) = some (c, y, nI t)) ∧ ∃ y, f_X12_choose_L4 n j2 m (nI k) (nI i) = some (m, y, nI t) := by
  intro e
  induction e with
  | zero =>
    intro j j2 i k hi _ _ hk
    obtain rfl : i = K := by omega
    omega
  | succ e ih =>
    intro j j2 i k hi hj hj2 hk
    obtain ⟨j, rfl⟩ : ∃ q, j = q + 1 := ⟨j - 1, by omega⟩
    obtain ⟨j2, rfl⟩ : ∃ q, j2 = q + 1 := ⟨j2 - 1, by omega⟩
    obtain ⟨a1, a2⟩ := can_ok (n := n) hK hT (x := i) (by omega)
    have hnl : ¬ nI K ≤ nI i := fun z => absurd ((nI_leI (by omega) (by omega)).mp z) (by omega)
    have hs : nab m (i + 1) = nab m i + (if cgm m i = true then 1 else 0) := rfl
    have hle := nab_le m K
    rw [u_X1_choose_L76, u_X12_choose_L4, h40, if_neg hnl, a2, bs_some]
    unfold f_X1_choose_J96 f_X1_choose_J110 f_X12_choose_J16 f_X12_choose_J30
    dsimp only
    by_cases q : cgm m i = true
    · rw [if_pos q] at hs a1 a2
      rw [if_pos q, if_neg ne10]
      by_cases qk : k = 0
      · subst qk
        refine ⟨i, by omega, q, ⟨nI 0, ?_⟩, ⟨nI 0, ?_⟩⟩
        · rw [if_neg (show ¬ (0 : Int32) < nI 0 by decide), a1, bs_some]
          dsimp only
          rw [if_neg ne10]
        · rw [if_pos (show nI 0 ≤ 0 by decide)]
      · obtain ⟨t, t1, t2, t3, t4⟩ := ih j j2 (i + 1) (k - 1) (by omega) (by omega) (by omega) (by omega)
        refine ⟨t, t1, t2, ?_, ?_⟩
        · rw [if_pos (show (0 : Int32) < nI k from (nI_ltI (a := 0) (by decide) (by omega)).mpr (by omega)), a1, bs_some]
          dsimp only
          rw [if_neg ne10, nI_1, show (1 : Int32) = nI 1 from rfl, nI_sub (by omega)]
          exact t3
        · rw [if_neg (show ¬ nI k ≤ 0 from fun z => absurd ((nI_leI (b := 0) (by omega) (by decide)).mp z) (by omega)), a2, bs_some]
          dsimp only
          rw [if_neg ne10, nI_1, show (1 : Int32) = nI 1 from rfl, nI_sub (by omega)]
          exact t4
    · rw [if_neg q] at hs a1 a2
      obtain ⟨t, t1, t2, t3, t4⟩ := ih j j2 (i + 1) k (by omega) (by omega) (by omega) (by omega)
      have hz : nI k - 0 = nI k := Int32.sub_zero _
      refine ⟨t, t1, t2, ?_, ?_⟩
      · rw [a1, bs_some]
        dsimp only
        rw [bs_some]
        dsimp only
        rw [if_pos rfl, if_pos rfl, nI_1, hz]
        by_cases qk : (0 : Int32) < nI k
        · rw [if_pos qk]; exact t3
        · rw [if_neg qk, a1, bs_some]
          dsimp only
          rw [if_pos rfl]; exact t3
      · rw [if_neg q, if_pos rfl, a2, bs_some]
        dsimp only
        rw [if_pos rfl, nI_1, hz]
        exact t4
