/-- an array q of N places is being filled with new things; i are there; gE: the picture ahead of the loop -/
def pl_inv (w k N : Nat) (K : (Nat → Nat) → Nat → va_E) (cA : Nat → ClassId) (gE : hp_M) (q i : Nat) (gi : hp_M) : Prop :=
  ∃ (row : Nat → Option Nat) (P : Nat → Nat → Nat), gi q = some (.inl (cA k, N, .inr (.inr (.inr (.inr row))))) ∧ (∀ a, a < i → row a = some (P a 0)) ∧ pl_pool w i K gi P ∧ hp_extX q gE gi ∧ ∀ a b, a < i → b < w → gE (P a b) = none
theorem pl_inv.start {w k N : Nat} {K : (Nat → Nat) → Nat → va_E} {cA : Nat → ClassId} {gE : hp_M} {q : Nat} {row : Nat → Option Nat} (h : gE q = some (.inl (cA k, N, .inr (.inr (.inr (.inr row)))))) : pl_inv w k N K cA gE q 0 gE :=
  ⟨row, fun _ _ => 0, h, fun _ h => absurd h (Nat.not_lt_zero _), pl_pool.zero, fun _ _ _ h => h, fun _ _ h => absurd h (Nat.not_lt_zero _)⟩
theorem pl_inv.step {w k N : Nat} {K : (Nat → Nat) → Nat → va_E} {cA : Nat → ClassId} {gE gi g1 u g2 : hp_M} {q i q2 : Nat} {e : va_E} {row : Nat → Option Nat} {P : Nat → Nat → Nat} {r2 : Nat → Option Nat} (h1 : gi q = some (.inl (cA k, N, .inr (.inr (.inr (.inr row)))))) (h2 : ∀ a, a < i → row a = some (P a 0)) (h3 : pl_pool w i K gi P) (h4 : hp_extX q gE gi) (h5 : ∀ a b, a < i → b < w → gE (P a b) = none)
    (n2 : gi q2 = none) (e1 : g1 = hp_up gi q2 e) (hm : pl_made w K q2 g1 u) (hr : r2 = va_up row i (some q2)) (e2 : g2 = hp_up u q (.inl (cA k, N, .inr (.inr (.inr (.inr r2))))))
    (hk : ∀ p j c n r, j < w → K p j ≠ .inl (c, n, .inr (.inr (.inr (.inr r))))) (hw : 0 < w) : pl_inv w k N K cA gE q (i + 1) g2 := by
  obtain ⟨p, p0, his, hnw, hij, hxt⟩ := hm
  have hx1 : hp_ext gi u := hp_extX.none n2 (hp_ext.new n2 e1) hxt
  have hnp : ∀ j, j < w → gi (p j) = none := fun j hj => by
    rcases Nat.eq_zero_or_pos j with rfl | h0
    · rw [p0]; exact n2
    · exact hp_up_none e1 (hnw j h0 hj)
  have hq : u q = some (.inl (cA k, N, .inr (.inr (.inr (.inr row))))) := hx1 _ _ h1
  refine ⟨r2, fun a => if a = i then p else P a, by rw [e2]; exact hp_up_self _ _ _, fun a ha => ?_, (h3.add hx1 his hnp hij).put hq (fun p j hj => hk p j _ _ _ hj) e2, fun b x hb hg => ?_, fun a b ha hb => ?_⟩
  · rw [hr]
    by_cases hai : a = i
    · simp only [hai, va_up_self, if_true]; rw [p0]
    · simp only [hai, if_false]; rw [va_up_ne _ _ hai]; exact h2 a (by omega)
  · rw [e2]; exact (hp_up_ne _ _ hb).trans (hx1 _ _ (h4 b x hb hg))
  · by_cases hai : a = i
    · simp only [hai, if_true]; exact hp_extX_none h4 h1 (hnp b hb)
    · simp only [hai, if_false]; exact h5 a b (by omega) hb
theorem K_Right_ne (cA : Nat → ClassId) : ∀ p j c n r, j < 2 → K_Right cA p j ≠ .inl (c, n, .inr (.inr (.inr (.inr r)))) := by
  intro p j c n r hj h
  rcases (show j = 0 ∨ j = 1 by omega) with rfl | rfl <;> simp [K_Right] at h
theorem K_Unit_ne (cA : Nat → ClassId) : ∀ p j c n r, j < 8 → K_Unit cA p j ≠ .inl (c, n, .inr (.inr (.inr (.inr r)))) := by
  intro p j c n r hj h
  rcases (show j = 0 ∨ j = 1 ∨ j = 2 ∨ j = 3 ∨ j = 4 ∨ j = 5 ∨ j = 6 ∨ j = 7 by omega) with rfl | rfl | rfl | rfl | rfl | rfl | rfl | rfl <;> simp [K_Unit] at h
theorem K_Strand_ne (cA : Nat → ClassId) : ∀ p j c n r, j < 9 → K_Strand cA p j ≠ .inl (c, n, .inr (.inr (.inr (.inr r)))) := by
  intro p j c n r hj h
  rcases (show j = 0 ∨ j = 1 ∨ j = 2 ∨ j = 3 ∨ j = 4 ∨ j = 5 ∨ j = 6 ∨ j = 7 ∨ j = 8 by omega) with rfl | rfl | rfl | rfl | rfl | rfl | rfl | rfl | rfl <;> simp [K_Strand] at h
/-- what the filling leaves: an array of N things, all new -/
def pl_full (w k N : Nat) (K : (Nat → Nat) → Nat → va_E) (cA : Nat → ClassId) (g u : hp_M) (q : Nat) : Prop :=
  ∃ (row : Nat → Option Nat) (P : Nat → Nat → Nat), u q = some (.inl (cA k, N, .inr (.inr (.inr (.inr row))))) ∧ (∀ a, a < N → row a = some (P a 0)) ∧ pl_pool w N K u P ∧ ∀ a b, a < N → b < w → g (P a b) = none
theorem pl_full.extX {w k N : Nat} {K : (Nat → Nat) → Nat → va_E} {cA : Nat → ClassId} {g u v : hp_M} {q h : Nat} {e : va_E} (hf : pl_full w k N K cA g u q) (hh : g h = some e) (hq : g q = none) (hx : hp_extX h u v) : pl_full w k N K cA g v q := by
  obtain ⟨row, P, h1, h2, h3, h4⟩ := hf
  refine ⟨row, P, hx _ _ (Ne.symm (hp_neN hh hq)) h1, h2, ⟨fun i hi j hj => hx _ _ (Ne.symm (hp_neN hh (h4 i j hi hj))) (h3.1 i hi j hj), h3.2⟩, h4⟩
theorem pl_full.ext {w k N : Nat} {K : (Nat → Nat) → Nat → va_E} {cA : Nat → ClassId} {g u v : hp_M} {q : Nat} (hf : pl_full w k N K cA g u q) (hx : hp_ext u v) : pl_full w k N K cA g v q := by
  obtain ⟨row, P, h1, h2, h3, h4⟩ := hf
  exact ⟨row, P, hx _ _ h1, h2, h3.ext hx, h4⟩
theorem pl_full.down {w k N : Nat} {K : (Nat → Nat) → Nat → va_E} {cA : Nat → ClassId} {g g0 u : hp_M} {q : Nat} (hf : pl_full w k N K cA g u q) (hd : ∀ b, g b = none → g0 b = none) : pl_full w k N K cA g0 u q := by
  obtain ⟨row, P, h1, h2, h3, h4⟩ := hf
  exact ⟨row, P, h1, h2, h3, fun a b ha hb => hd _ (h4 a b ha hb)⟩
