/-! things that come in any number: what one is made of, by its parts p 0, p 1, ..; K p j: the cell of part j -/
def hp_ext (g u : hp_M) : Prop := ∀ b e, g b = some e → u b = some e
def hp_extX (h : Nat) (g u : hp_M) : Prop := ∀ b e, b ≠ h → g b = some e → u b = some e
theorem hp_ext.rf (g : hp_M) : hp_ext g g := fun _ _ h => h
theorem hp_ext.tr {g u v : hp_M} (h1 : hp_ext g u) (h2 : hp_ext u v) : hp_ext g v := fun b e h => h2 b e (h1 b e h)
theorem hp_ext.new {g u : hp_M} {q : Nat} {e : va_E} (hq : g q = none) (hu : u = hp_up g q e) : hp_ext g u := fun b x h => by
  rw [hu]; exact (hp_up_ne _ _ (hp_neN h hq)).trans h
theorem hp_extX.none {h : Nat} {g u v : hp_M} (hq : g h = none) (h1 : hp_ext g u) (h2 : hp_extX h u v) : hp_ext g v := fun b e hb => h2 b e (hp_neN hb hq) (h1 b e hb)
theorem hp_up_none {g u : hp_M} {q b : Nat} {e : va_E} (hu : u = hp_up g q e) (h : u b = none) : g b = none := by
  rw [hu] at h
  unfold hp_up at h
  by_cases hb : b = q
  · rw [if_pos hb] at h; cases h
  · rw [if_neg hb] at h; exact h
theorem hp_ext_none {g u : hp_M} (h : hp_ext g u) {b : Nat} (hb : u b = none) : g b = none := by
  cases hg : g b with
  | none => rfl
  | some e => rw [h b e hg] at hb; cases hb
def pl_is (w : Nat) (K : (Nat → Nat) → Nat → va_E) (u : hp_M) (p : Nat → Nat) : Prop := ∀ j, j < w → u (p j) = some (K p j)
def pl_inj (w : Nat) (p : Nat → Nat) : Prop := ∀ i j, i < w → j < w → p i = p j → i = j
def pl_pool (w n : Nat) (K : (Nat → Nat) → Nat → va_E) (u : hp_M) (P : Nat → Nat → Nat) : Prop :=
  (∀ i, i < n → pl_is w K u (P i)) ∧ ∀ i j i' j', i < n → j < w → i' < n → j' < w → P i j = P i' j' → i = i' ∧ j = j'
/-- what a constructor has made of the cell h: its parts, all others new -/
def pl_made (w : Nat) (K : (Nat → Nat) → Nat → va_E) (h : Nat) (g u : hp_M) : Prop :=
  ∃ p : Nat → Nat, p 0 = h ∧ pl_is w K u p ∧ (∀ j, 0 < j → j < w → g (p j) = none) ∧ pl_inj w p ∧ hp_extX h g u
theorem pl_is.ext {w : Nat} {K : (Nat → Nat) → Nat → va_E} {g u : hp_M} {p : Nat → Nat} (h : pl_is w K g p) (hx : hp_ext g u) : pl_is w K u p := fun j hj => hx _ _ (h j hj)
theorem pl_pool.ext {w n : Nat} {K : (Nat → Nat) → Nat → va_E} {g u : hp_M} {P : Nat → Nat → Nat} (h : pl_pool w n K g P) (hx : hp_ext g u) : pl_pool w n K u P := ⟨fun i hi => (h.1 i hi).ext hx, h.2⟩
theorem pl_pool.zero {w : Nat} {K : (Nat → Nat) → Nat → va_E} {g : hp_M} {P : Nat → Nat → Nat} : pl_pool w 0 K g P := ⟨fun _ h => absurd h (Nat.not_lt_zero _), fun _ _ _ _ h => absurd h (Nat.not_lt_zero _)⟩
theorem pl_pool.add {w n : Nat} {K : (Nat → Nat) → Nat → va_E} {g u : hp_M} {P : Nat → Nat → Nat} {p : Nat → Nat} (h : pl_pool w n K g P) (hx : hp_ext g u) (hp : pl_is w K u p) (hn : ∀ j, j < w → g (p j) = none) (hi : pl_inj w p) : pl_pool w (n + 1) K u (fun i => if i = n then p else P i) := by
  refine ⟨fun i hi => ?_, fun i j i' j' h1 h2 h3 h4 he => ?_⟩
  · by_cases hin : i = n
    · simp only [hin, if_true]; exact hp
    · simp only [hin, if_false]; exact (h.1 i (by omega)).ext hx
  · by_cases h5 : i = n <;> by_cases h6 : i' = n
    · simp only [h5, h6, if_true] at he
      exact ⟨by omega, hi j j' h2 h4 he⟩
    · simp only [h5, h6, if_true, if_false] at he
      have a := hn j h2
      rw [he, h.1 i' (by omega) j' h4] at a
      cases a
    · simp only [h5, h6, if_true, if_false] at he
      have a := hn j' h4
      rw [← he, h.1 i (by omega) j h2] at a
      cases a
    · simp only [h5, h6, if_false] at he
      exact h.2 i j i' j' (by omega) h2 (by omega) h4 he
/-- a write at a cell that is no part -/
theorem pl_pool.put {w n : Nat} {K : (Nat → Nat) → Nat → va_E} {g u : hp_M} {P : Nat → Nat → Nat} {a : Nat} {e x : va_E} (h : pl_pool w n K g P) (ha : g a = some x) (hk : ∀ p j, j < w → K p j ≠ x) (hu : u = hp_up g a e) : pl_pool w n K u P := by
  refine ⟨fun i hi j hj => ?_, h.2⟩
  have h1 := h.1 i hi j hj
  rw [hu, hp_up_ne _ _ (fun q => hk (P i) j hj (by rw [q, ha] at h1; exact (Option.some.inj h1).symm))]
  exact h1
/-- an array of such things: row i leads to part 0 of thing i -/
def pl_arr (k : Nat) (cA : Nat → ClassId) (N n : Nat) (u : hp_M) (a : Nat) (P : Nat → Nat → Nat) : Prop := ∃ row : Nat → Option Nat, u a = some (.inl (cA k, N, .inr (.inr (.inr (.inr row))))) ∧ ∀ i, i < n → row i = some (P i 0)
def K_Right (cA : Nat → ClassId) (p : Nat → Nat) : Nat → va_E := fun j => match j with
  | 0 => .inr (5, [.long 0, .ref (p 1), .int 0, .int 0])
  | _ => .inl (cA 2, 5, .inr (.inl (fun _ => 0)))
def K_Unit (cA : Nat → ClassId) (p : Nat → Nat) : Nat → va_E := fun j => match j with
  | 0 => .inr (9, [.int 0, .int 0, .int 0, .int 0, .int 0, .long 0, .int 0, .int 0, .int 0, .int 0, .int 0, .int 0, .ref (p 1), .int 0, .int 0, .ref (p 2), .ref (p 4), .ref (p 6)])
  | 1 => .inl (cA 1, 13, .inl (fun _ => 0))
  | 2 => .inr (6, [.ref (p 3), .int 0])
  | 3 => .inl (cA 2, 24, .inr (.inl (fun _ => 0)))
  | 4 => .inr (6, [.ref (p 5), .int 0])
  | 5 => .inl (cA 2, 16, .inr (.inl (fun _ => 0)))
  | 6 => .inr (6, [.ref (p 7), .int 0])
  | _ => .inl (cA 2, 16, .inr (.inl (fun _ => 0)))
def K_Strand (cA : Nat → ClassId) (p : Nat → Nat) : Nat → va_E := fun j => match j with
  | 0 => .inr (7, [.ref (p 1), .ref (p 2), .ref (p 3), .ref (p 4), .ref (p 5), .ref (p 6), .ref (p 7), .int 0, .int 0, .int 0, .int 0, .int 0, .long 0, .int 0, .null, .int 0, .int 0, .int 0])
  | 7 => .inr (6, [.ref (p 8), .int 0])
  | 8 => .inl (cA 2, 32, .inr (.inl (fun _ => 0)))
  | _ => .inl (cA 1, 60, .inl (fun _ => 0))
theorem hp_extX_none {h : Nat} {g u : hp_M} (hx : hp_extX h g u) {b : Nat} {e : va_E} (hh : u h = some e) (hb : u b = none) : g b = none := by
  cases hg : g b with
  | none => rfl
  | some x =>
    by_cases q : b = h
    · rw [q, hh] at hb; cases hb
    · rw [hx b x q hg] at hb; cases hb
