/-! have all threads ended? -/
def ngo (m : md_S) (k : Nat) : Nat := rsum (fun x => if mA m 106 x = 0 then 1 else 0) k
theorem ngo_le (m : md_S) : ∀ k, ngo m k ≤ k
  | 0 => Nat.le_refl _
  | k + 1 => by
      have := ngo_le m k
      show ngo m k + (if mA m 106 k = 0 then 1 else 0) ≤ k + 1
      split <;> omega
theorem ngo_mo (m : md_S) : ∀ {i k : Nat}, i ≤ k → ngo m i ≤ ngo m k
  | i, 0, h => by
      have : i = 0 := by omega
      rw [this]; exact Nat.le_refl _
  | i, k + 1, h => by
      by_cases q : i = k + 1
      · rw [q]; exact Nat.le_refl _
      · have := ngo_mo m (i := i) (k := k) (by omega)
        show ngo m i ≤ ngo m k + (if mA m 106 k = 0 then 1 else 0)
        omega
theorem ended_L {n K : Nat} {c : cd_S} {m : md_S} (hK : K ≤ 8) (h40 : cI c 40 0 = nI K) (h105 : mI m 105 = nI K) (hT : ∀ x, x < K → THT c m K x) : ∀ (e j j2 i : Nat), i + e = K → e < j → e < j2 → f_X1_allEnded_L4 n j c (if ngo m i = 0 then 1 else 0) (nI i) = some (c, (if ngo m K = 0 then 1 else 0), nI K) ∧ f_X12_going_L4 n j2 m (nI (ngo m i)) (nI i) = some (m, nI (ngo m K), nI K) := by
  intro e
  induction e with
  | zero =>
    intro j j2 i hi hj hj2
    obtain ⟨j, rfl⟩ : ∃ q, j = q + 1 := ⟨j - 1, by omega⟩
    obtain ⟨j2, rfl⟩ : ∃ q, j2 = q + 1 := ⟨j2 - 1, by omega⟩
    obtain rfl : i = K := by omega
    rw [u_X1_allEnded_L4, u_X12_going_L4, h40, h105, if_pos ((nI_leI (by omega) (by omega)).mpr (Nat.le_refl _)), if_pos ((nI_leI (by omega) (by omega)).mpr (Nat.le_refl _))]
    exact ⟨rfl, rfl⟩
  | succ e ih =>
    intro j j2 i hi hj hj2
    obtain ⟨j, rfl⟩ : ∃ q, j = q + 1 := ⟨j - 1, by omega⟩
    obtain ⟨j2, rfl⟩ : ∃ q, j2 = q + 1 := ⟨j2 - 1, by omega⟩
    have ih' := ih j j2 (i + 1) (by omega) (by omega) (by omega)
    have hnl : ¬ nI K ≤ nI i := fun z => absurd ((nI_leI (by omega) (by omega)).mp z) (by omega)
    have hs : ngo m (i + 1) = ngo m i + (if mA m 106 i = 0 then 1 else 0) := rfl
    have hst := (hT i (by omega)).1
    have hi8 : i < 8 := by omega
    have hend : f_X1_hasEnded n c (nI i) = some (if mA m 106 i = 0 then 0 else 1, c) := by
      unfold f_X1_hasEnded
      rw [c_strandAt hi8, bs_some]
      dsimp only
      rw [hst]
      by_cases z : mA m 106 i = 0
      · rw [if_pos z, if_pos z]
      · rw [if_neg z, if_neg z]
    constructor
    · rw [u_X1_allEnded_L4, h40, if_neg hnl]
      unfold f_X1_allEnded_J28 f_X1_allEnded_J29
      by_cases q0 : ngo m i = 0
      · rw [if_pos q0, if_neg ne10, hend, bs_some]
        dsimp only
        by_cases q : mA m 106 i = 0
        · rw [if_pos q] at hs
          have h1 := ih'.1
          rw [if_neg (show ¬ ngo m (i + 1) = 0 by omega)] at h1
          rw [if_pos q, if_pos rfl, nI_1]
          exact h1
        · rw [if_neg q] at hs
          have h1 := ih'.1
          rw [if_pos (show ngo m (i + 1) = 0 by omega)] at h1
          rw [if_neg q, if_neg ne10, nI_1]
          exact h1
      · have h1 := ih'.1
        rw [if_neg (show ¬ ngo m (i + 1) = 0 by omega)] at h1
        rw [if_neg q0, if_pos rfl, nI_1]
        exact h1
    · rw [u_X12_going_L4, h105, if_neg hnl, m_ld106 hi8, bs_some]
      unfold f_X12_going_J27
      by_cases q : mA m 106 i = 0
      · rw [if_pos q] at hs
        rw [if_pos q, nI_1, nI_1, ← hs]
        exact ih'.2
      · rw [if_neg q] at hs
        rw [if_neg q, nI_1, show nI (ngo m i) + 0 = nI (ngo m (i + 1)) by rw [hs]; exact Int32.add_zero _]
        exact ih'.2
theorem ended_ok {n K : Nat} {c : cd_S} {m : md_S} (hn : 100 ≤ n) (hK : K ≤ 8) (h40 : cI c 40 0 = nI K) (h105 : mI m 105 = nI K) (hT : ∀ x, x < K → THT c m K x) : f_X1_allEnded n c = some (if ngo m K = 0 then 1 else 0, c) ∧ f_X12_going n m = some (nI (ngo m K), m) := by
  obtain ⟨a, b⟩ := ended_L (n := n) hK h40 h105 hT K n n 0 (by omega) (by omega) (by omega)
  unfold f_X1_allEnded f_X12_going
  refine ⟨?_, ?_⟩
  · rw [show f_X1_allEnded_L4 n n c 1 0 = _ from a, bs_some]
    dsimp only
    by_cases q : ngo m K = 0
    · rw [if_pos q]; rfl
    · rw [if_neg q]; rfl
  · rw [show f_X12_going_L4 n n m 0 0 = _ from b, bs_some]
