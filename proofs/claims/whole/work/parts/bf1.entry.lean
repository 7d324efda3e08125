/-! the entry of a rewritten unit, in the class -/
def enB (s dom lim : Nat) : List Nat := (if s = 2 then 31 else if s = 3 then 32 else if s = 4 then 33 else 30) :: (pr dom ++ if s = 3 then pr lim else [])
theorem enB_len (s dom lim : Nat) : (enB s dom lim).length ≤ 5 := by
  unfold enB
  rw [List.length_cons, List.length_append, pr_len]
  split <;> simp [pr]
theorem c_entry {n : Nat} {C : Nat × Nat} {c : cd_S} {b : cd_B} {u r s dom lim : Nat} (hC : BC C) (hBd : Bd C c b) (hr : r < 197) (hz : rsz c r + 5 ≤ rcap r) (hs : s ≤ 4) (h289 : cI c 289 u = nI s) (h291 : cI c 291 u = nI dom) (hd : dom < 2 ^ 31) (h296 : s = 3 → cI c 296 u = nI lim ∧ lim < 2 ^ 31) : ∃ c' b', f_X9_writeEntry n c b u r = some (0, c', b') ∧ CPUT C r c c' b b' (enB s dom lim) := by
  have key : ∀ t : Nat, (if s = 2 then 31 else if s = 3 then 32 else if s = 4 then 33 else 30) = t → ∃ c' b', f_X9_writeEntry_J41 n u r c b (nI t) = some (0, c', b') ∧ CPUT C r c c' b b' (enB s dom lim) := by
    intro t ht
    obtain ⟨c1, b1, a1, a2⟩ := c_a1 (n := n) (k := t) hC hBd hr (by omega)
    have s1 := a2.sz
    obtain ⟨c2, b2, d1, d2⟩ := c_a2 (n := n) (x := dom) hC a2.1 hr (by rw [s1]; simp; omega) hd
    have s2 := d2.sz
    have t2 := a2.tr d2
    have e291 : cI c1 291 u = nI dom := by rw [cd_frI a2.2.2.1 (by decide) (by decide)]; exact h291
    have e289 : cI c2 289 u = nI s := by rw [cd_frI t2.2.2.1 (by decide) (by decide)]; exact h289
    unfold f_X9_writeEntry_J41
    rw [a1, bs_some]
    dsimp only
    rw [e291, d1, bs_some]
    dsimp only
    rw [e289]
    by_cases h3 : s = 3
    · obtain ⟨g1, g2⟩ := h296 h3
      have e296 : cI c2 296 u = nI lim := by rw [cd_frI t2.2.2.1 (by decide) (by decide)]; exact g1
      obtain ⟨c3, b3, i1, i2⟩ := c_a2 (n := n) (x := lim) hC d2.1 hr (by rw [s2, s1, pr_len]; simp; omega) g2
      rw [if_pos (by rw [h3]; rfl), e296, i1, bs_some]
      refine ⟨c3, b3, c_ck (c_ck (c_ck rfl (Nat.le_refl _) (Nat.le_refl _)) i2.2.1.1 i2.2.1.2) (i2.2.1.tr d2.2.1).1 (i2.2.1.tr d2.2.1).2, ?_⟩
      have := t2.tr i2
      unfold enB
      rw [ht, if_pos h3]
      exact this
    · rw [if_neg (show ¬ nI s = (3 : Int32) from fun y => h3 ((nI_eq (b := 3) (by omega) (by decide)).mp y))]
      refine ⟨c2, b2, c_ck (c_ck rfl (Nat.le_refl _) (Nat.le_refl _)) d2.2.1.1 d2.2.1.2, ?_⟩
      unfold enB
      rw [ht, if_neg h3, List.append_nil]
      exact t2
  have wrap : ∀ {f : Option (Int32 × cd_S × cd_B)}, (∃ c' b', f = some (0, c', b') ∧ CPUT C r c c' b b' (enB s dom lim)) → ∃ c' b', cd_ck (fun (q : (Int32 × cd_S × cd_B)) => q.2.2) b f = some (0, c', b') ∧ CPUT C r c c' b b' (enB s dom lim) := by
    rintro f ⟨c', b', e1, e2⟩
    exact ⟨c', b', c_ck e1 e2.2.1.1 e2.2.1.2, e2⟩
  unfold f_X9_writeEntry
  refine wrap ?_
  rw [h289]
  by_cases h2 : s = 2
  · rw [if_pos (by rw [h2]; rfl)]; exact key 31 (by rw [if_pos h2])
  · rw [if_neg (show ¬ nI s = (2 : Int32) from fun y => h2 ((nI_eq (b := 2) (by omega) (by decide)).mp y))]
    by_cases h3 : s = 3
    · rw [if_pos (by rw [h3]; rfl)]; exact key 32 (by rw [if_neg h2, if_pos h3])
    · rw [if_neg (show ¬ nI s = (3 : Int32) from fun y => h3 ((nI_eq (b := 3) (by omega) (by decide)).mp y))]
      by_cases h4 : s = 4
      · rw [if_pos (by rw [h4]; rfl)]; exact key 33 (by rw [if_neg h2, if_neg h3, if_pos h4])
      · rw [if_neg (show ¬ nI s = (4 : Int32) from fun y => h4 ((nI_eq (b := 4) (by omega) (by decide)).mp y))]
        exact key 30 (by rw [if_neg h2, if_neg h3, if_neg h4])
