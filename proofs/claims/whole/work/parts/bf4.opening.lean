/-! the opening of a rewritten unit in the model; locals on both sides -/
theorem m_opening {n : Nat} {m σ : md_S} {u d s dom lim p : Nat} (hf : md_fr [74, 75] m σ) (h75 : mI σ 75 = nI p) (hp : p + 6 < 80000) (hu : u < 60) (hd8 : d < 8) (h37 : mA m 37 u = nI d) (h32 : mA m 32 d = nI dom) (hdom : dom < 2 ^ 31) (hs : s ≤ 4) (h36 : mA m 36 u = nI s) (h42 : s = 3 → mA m 42 u = nI lim ∧ lim < 2 ^ 31) : ∃ σ', f_X12_opening n σ (nI u) = some (0, σ') ∧ PUTS σ σ' p (enB s dom lim) := by
  have A : ∀ f, f ∉ [74, 75] → ∀ x, mA σ f x = mA m f x := fun f hf' x => md_frA hf hf' x
  have key : ∀ t : Nat, (if s = 2 then 31 else if s = 3 then 32 else if s = 4 then 33 else 30) = t → ∃ σ', f_X12_opening_J60 n σ (nI u) (nI dom) (nI t) = some (0, σ') ∧ PUTS σ σ' p (enB s dom lim) := by
    intro t ht
    obtain ⟨s1, a1, a2⟩ := m_put2 (n := n) (b := t) (x := dom) h75 (by omega) hdom
    have f1 : md_fr [74, 75] m s1 := md_fr_tr hf a2.1 (fun k hk => ⟨hk, hk⟩)
    unfold f_X12_opening_J60
    rw [a1, bs_some]
    dsimp only
    rw [m_ld36 hu, bs_some, md_frA f1 (by decide), h36]
    by_cases h3 : s = 3
    · obtain ⟨g1, g2⟩ := h42 h3
      obtain ⟨s2, d1, d2⟩ := m_pn (n := n) (x := lim) a2.2.1 (by simp [pr]; omega) g2
      rw [if_pos (by rw [h3]; rfl), m_ld42 hu, bs_some, md_frA f1 (by decide), g1, d1, bs_some]
      refine ⟨s2, rfl, ?_⟩
      have := a2.tr d2
      unfold enB
      rw [ht, if_pos h3]
      exact this
    · rw [if_neg (show ¬ nI s = (3 : Int32) from fun y => h3 ((nI_eq (b := 3) (by omega) (by decide)).mp y))]
      refine ⟨s1, rfl, ?_⟩
      unfold enB
      rw [ht, if_neg h3, List.append_nil]
      exact a2
  unfold f_X12_opening
  rw [m_ld37 hu, bs_some, A 37 (by decide), h37, m_ld32 hd8, bs_some, A 32 (by decide), h32, m_ld36 hu, bs_some, A 36 (by decide), h36]
  by_cases h2 : s = 2
  · rw [if_pos (by rw [h2]; rfl)]; exact key 31 (by rw [if_pos h2])
  · rw [if_neg (show ¬ nI s = (2 : Int32) from fun y => h2 ((nI_eq (b := 2) (by omega) (by decide)).mp y)), bs_some]
    by_cases h3 : s = 3
    · rw [if_pos (by rw [h3]; rfl)]; exact key 32 (by rw [if_neg h2, if_pos h3])
    · rw [if_neg (show ¬ nI s = (3 : Int32) from fun y => h3 ((nI_eq (b := 3) (by omega) (by decide)).mp y)), bs_some]
      by_cases h4 : s = 4
      · rw [if_pos (by rw [h4]; rfl)]; exact key 33 (by rw [if_neg h2, if_neg h3, if_pos h4])
      · rw [if_neg (show ¬ nI s = (4 : Int32) from fun y => h4 ((nI_eq (b := 4) (by omega) (by decide)).mp y))]
        exact key 30 (by rw [if_neg h2, if_neg h3, if_neg h4])
theorem locs_ok {n : Nat} {c : cd_S} {m : md_S} {u : Nat} (hu : u < 60) (hur : LU c m u) (h50 : mN m 50 ≤ 500) : ∃ L, L < 2000 ∧ (∀ c', LU c' m u → f_X9_locals n c' u = some (nI L, c')) ∧ ∀ σ, md_fr [74, 75, 76, 77, 78, 79] m σ → f_X12_localsOf n σ (nI u) = some (nI L, σ) := by
  obtain ⟨⟨p, p1, p2⟩, ⟨q, q1, q2, q3⟩, ⟨K, k1, k2, k3, -⟩⟩ := hur
  have hub : ub m u = (if mA m 36 u = 0 then 1 else 0) + p := by unfold ub; rw [aN_of p2 (by omega)]
  have hub4 : ub m u ≤ 4 := by rw [hub]; split <;> omega
  refine ⟨K + (ub m u + q), by omega, fun c' hc' => ?_, fun σ hf => ?_⟩
  · obtain ⟨-, ⟨q', q1', q2', q3'⟩, ⟨K', k1', k2', k3', -⟩⟩ := hc'
    have e1 : q' = q := (nI_eq (by omega) (by omega)).mp (q1'.symm.trans q1)
    have e2 : K' = K := (nI_eq (by omega) (by omega)).mp (k3'.symm.trans k3)
    unfold f_X9_locals
    rw [k2', q3', nI_add, e1, e2]
  · unfold f_X12_localsOf f_X12_localsOf_J20
    rw [m_ld44 hu, bs_some, m_ld36 hu, bs_some, md_frA hf (by decide), md_frA hf (by decide), k3, m_ld39 hu, bs_some, m_ld46 hu, bs_some, md_frA hf (by decide), md_frA hf (by decide), p2, q1]
    by_cases h36 : mA m 36 u = 0
    · rw [if_pos h36, show (1 : Int32) = nI 1 from rfl, nI_add, nI_add, nI_add, hub, if_pos h36]
      congr 3
      omega
    · rw [if_neg h36, show (0 : Int32) = nI 0 from rfl, nI_add, bs_some, bs_some, nI_add, nI_add, hub, if_neg h36]
      congr 3
      omega
