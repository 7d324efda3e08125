/-! one entry of a script, as the class writes it -/
/-- an entry's operands, where labels are as P says -/
def WO (c : cd_S) (P : Int32 → Nat) (e : EN) : Prop :=
  (∃ k, e.1 = nI k ∧ (k ≤ 28 ∨ k = 100)) ∧ (e.1 ∈ o1L → e.1 ≠ 2 → e.1 ≠ 3 → ∃ a, e.2.1 = nI a ∧ a < 2 ^ 31) ∧ (e.1 = 7 → ∃ a, e.2.2 = nI a ∧ a < 2 ^ 31) ∧ (e.1 = 17 ∨ e.1 = 18 ∨ e.1 = 19 → ∃ l, l < 400 ∧ e.2.1 = nI l ∧ cAr c 79 0 l = nI (P e.2.1) ∧ P e.2.1 < 2 ^ 31)
/-- what the class reads of unit u at code, in all states that come of c0 -/
def CU (n : Nat) (c0 : cd_S) (u r L : Nat) (lo : Int32 → Nat) (K : Int32 → Prop) : Prop := L < 2000 ∧ (∀ c, cd_fr [79] [r] c0 c → f_X9_locals n c u = some (nI L, c)) ∧ ∀ key, K key → lo key < 2 ^ 31 ∧ ∀ c, cd_fr [79] [r] c0 c → f_X9_localOf n c u key = some (nI (lo key), c)
theorem c_opd {n : Nat} {c0 c : cd_S} {u r L : Nat} {lo P : Int32 → Nat} {K : Int32 → Prop} {e : EN} (hU : CU n c0 u r L lo K) (hf : cd_fr [79] [r] c0 c) (hw : WO c P e) (hK : e.1 = 2 ∨ e.1 = 3 → K e.2.1) (h1 : e.1 ∈ o1L) : f_X9_operandOf n c u e.1 e.2.1 = some (nI (opd lo P e), c) ∧ opd lo P e < 2 ^ 31 := by
  obtain ⟨-, w1, -, w3⟩ := hw
  unfold f_X9_operandOf f_X9_operandOf_J10 f_X9_operandOf_J34 opd
  by_cases h2 : e.1 = 2
  · obtain ⟨a, b⟩ := hU.2.2 _ (hK (Or.inl h2))
    rw [if_pos h2, if_pos (Or.inl h2), b c hf, bs_some]
    exact ⟨rfl, a⟩
  rw [if_neg h2]
  by_cases h3 : e.1 = 3
  · obtain ⟨a, b⟩ := hU.2.2 _ (hK (Or.inr h3))
    rw [if_pos h3, if_pos (Or.inr h3), b c hf, bs_some]
    exact ⟨rfl, a⟩
  rw [if_neg h3, if_neg (show ¬ (e.1 = 2 ∨ e.1 = 3) from fun y => y.elim h2 h3)]
  by_cases hj : e.1 = 17 ∨ e.1 = 18 ∨ e.1 = 19
  · obtain ⟨l, l1, l2, l3, l4⟩ := w3 hj
    have key : (if e.2.1 < 0 then some ((0 : Int32), c) else if (400 : Int32) ≤ e.2.1 then some ((0 : Int32), c) else (Option.bind (cldA c 79 0 e.2.1) fun v1 => some (v1, c))) = some (nI (P e.2.1), c) := by
      rw [l2, if_neg (show ¬ nI l < 0 from nI_nn (by omega)), if_neg (show ¬ (400 : Int32) ≤ nI l from fun y => absurd ((nI_leI (a := 400) (by decide) (by omega)).mp y) (by omega)), c_ld79 l1, bs_some, l3, l2]
    rw [if_pos hj]
    refine ⟨?_, l4⟩
    rcases hj with h | h | h
    · rw [if_pos h]; exact key
    · rw [if_neg (show ¬ e.1 = 17 by rw [h]; decide), if_pos h]; exact key
    · rw [if_neg (show ¬ e.1 = 17 by rw [h]; decide), if_neg (show ¬ e.1 = 18 by rw [h]; decide), if_pos h]; exact key
  · have n17 : e.1 ≠ 17 := fun y => hj (Or.inl y)
    have n18 : e.1 ≠ 18 := fun y => hj (Or.inr (Or.inl y))
    have n19 : e.1 ≠ 19 := fun y => hj (Or.inr (Or.inr y))
    obtain ⟨a, a1, a2⟩ := w1 h1 h2 h3
    rw [if_neg n17, if_neg n18, if_neg n19, if_neg hj, a1, oN_nI a2]
    exact ⟨rfl, a2⟩
