/-! a pass over a script -/
theorem c_L52 {n u r : Nat} {l2 l5 : Int32} {E : List EN} {I : Nat → cd_S → cd_B → Prop} (hS : ∀ x c b, I x c b → SCP c u E) (step : ∀ x c b, x < E.length → I x c b → ∃ c' b', f_X9_writeOne n c b u r (nI x) = some (0, c', b') ∧ ble b' b ∧ I (x + 1) c' b') : ∀ (d j x : Nat) (c : cd_S) (b : cd_B), x + d = E.length → d < j → I x c b → ∃ c' b', f_X9_write_L52 n u l2 r l5 j c b (nI x) = some (c', b', nI E.length) ∧ ble b' b ∧ I E.length c' b' := by
  intro d
  induction d with
  | zero =>
    intro j x c b hx hj hI
    obtain ⟨j, rfl⟩ : ∃ q, j = q + 1 := ⟨j - 1, by omega⟩
    obtain hxe : x = E.length := by omega
    have hl := (hS x c b hI).len.1
    refine ⟨c, b, ?_, ble.refl _, by rw [← hxe]; exact hI⟩
    rw [u_X9_write_L52, c_len (hS x c b hI), bs_some]
    dsimp only
    rw [if_pos ((nI_leI (by omega) (by omega)).mpr (by omega)), hxe]
  | succ d ih =>
    intro j x c b hx hj hI
    obtain ⟨j, rfl⟩ : ∃ q, j = q + 1 := ⟨j - 1, by omega⟩
    have hl := (hS x c b hI).len.1
    obtain ⟨c1, b1, a1, a2, a3⟩ := step x c b (by omega) hI
    obtain ⟨c2, b2, d1, d2, d3⟩ := ih j (x + 1) c1 b1 (by omega) (by omega) a3
    refine ⟨c2, b2, ?_, d2.tr a2, d3⟩
    rw [u_X9_write_L52, c_len (hS x c b hI), bs_some]
    dsimp only
    rw [if_neg (fun y => absurd ((nI_leI (by omega) (by omega)).mp y) (by omega)), a1, bs_some, nI_1]
    exact c_ck d1 d2.1 d2.2
/-- what is known of a unit's script for its code -/
def WE (n : Nat) (c0 : cd_S) (m : md_S) (u r : Nat) (S : Nat → Prop) (R : Bool) (K : Int32 → Prop) (E : List EN) : Prop :=
  ∀ e, e ∈ E → (((∃ k, e.1 = nI k ∧ k ≤ 28) ∨ (e.1 = 100 ∧ ∃ l, l < 400 ∧ e.2.1 = nI l)) ∧ (e.1 ∈ o1L → e.1 ≠ 2 → e.1 ≠ 3 → ∃ a, e.2.1 = nI a ∧ a < 2 ^ 31) ∧ (e.1 = 7 → ∃ a, e.2.2 = nI a ∧ a < 2 ^ 31) ∧ (e.1 = 17 ∨ e.1 = 18 ∨ e.1 = 19 → (∃ l, l < 400 ∧ e.2.1 = nI l) ∧ e.2.1 ∈ lbs E) ∧ (e.1 = 2 ∨ e.1 = 3 → K e.2.1)) ∧ ∀ c, cd_fr [79] [r] c0 c → (R = true → cI c 301 u ≠ 0 → ∃ v, f_X2_handsContext n c e.1 e.2.1 e.2.2 = some (v, c) ∧ bI (HE m S e) v) ∧ (HE m S e → cI c 301 u ≠ 0)
theorem getD_mem {E : List EN} {x : Nat} (h : x < E.length) : E.getD x (0, 0, 0) ∈ E ∧ E = E.take x ++ E.getD x (0, 0, 0) :: E.drop (x + 1) ∧ E.take (x + 1) = E.take x ++ [E.getD x (0, 0, 0)] := by
  have e : E.getD x (0, 0, 0) = E[x] := by rw [List.getD_eq_getElem?_getD, List.getElem?_eq_getElem h]; rfl
  rw [e]
  refine ⟨List.getElem_mem h, ?_, ?_⟩
  · rw [← List.drop_eq_getElem_cons h, List.take_append_drop]
  · rw [List.take_succ_eq_append_getElem h]
