abbrev hp_Tl (cA : Nat → ClassId) : List (ClassId × FieldType) := [(cA 0, .byte), (cA 1, .int), (cA 2, .long), (cA 3, .boolean), (cA 4, .object "WardenHouse$Right"), (cA 5, .object "WardenHouse$Strand"), (cA 6, .object "WardenHouse$Unit")]
theorem hp_neAA01 {g : hp_M} {a b : Nat} {c1 c2 : ClassId} {n1 n2 : Nat} {f1 : Nat → Int32} {f2 : Nat → Int64} (h1 : g a = some (.inl (c1, n1, .inl f1))) (h2 : g b = some (.inl (c2, n2, .inr (.inl f2)))) : a ≠ b := fun q => by
  subst q; rw [h1] at h2; cases h2
theorem hp_neAA10 {g : hp_M} {a b : Nat} {c1 c2 : ClassId} {n1 n2 : Nat} {f1 : Nat → Int64} {f2 : Nat → Int32} (h1 : g a = some (.inl (c1, n1, .inr (.inl f1)))) (h2 : g b = some (.inl (c2, n2, .inl f2))) : a ≠ b := fun q => by
  subst q; rw [h1] at h2; cases h2
theorem hp_neAA02 {g : hp_M} {a b : Nat} {c1 c2 : ClassId} {n1 n2 : Nat} {f1 : Nat → Int32} {f2 : Nat → Option Nat} (h1 : g a = some (.inl (c1, n1, .inl f1))) (h2 : g b = some (.inl (c2, n2, .inr (.inr (.inr (.inr f2)))))) : a ≠ b := fun q => by
  subst q; rw [h1] at h2; cases h2
theorem hp_neAA20 {g : hp_M} {a b : Nat} {c1 c2 : ClassId} {n1 n2 : Nat} {f1 : Nat → Option Nat} {f2 : Nat → Int32} (h1 : g a = some (.inl (c1, n1, .inr (.inr (.inr (.inr f1)))))) (h2 : g b = some (.inl (c2, n2, .inl f2))) : a ≠ b := fun q => by
  subst q; rw [h1] at h2; cases h2
theorem hp_neAA12 {g : hp_M} {a b : Nat} {c1 c2 : ClassId} {n1 n2 : Nat} {f1 : Nat → Int64} {f2 : Nat → Option Nat} (h1 : g a = some (.inl (c1, n1, .inr (.inl f1)))) (h2 : g b = some (.inl (c2, n2, .inr (.inr (.inr (.inr f2)))))) : a ≠ b := fun q => by
  subst q; rw [h1] at h2; cases h2
theorem hp_neAA21 {g : hp_M} {a b : Nat} {c1 c2 : ClassId} {n1 n2 : Nat} {f1 : Nat → Option Nat} {f2 : Nat → Int64} (h1 : g a = some (.inl (c1, n1, .inr (.inr (.inr (.inr f1)))))) (h2 : g b = some (.inl (c2, n2, .inr (.inl f2)))) : a ≠ b := fun q => by
  subst q; rw [h1] at h2; cases h2
theorem hp_neLen {g : hp_M} {a b : Nat} {x1 x2 : ClassId × vp_A} (h1 : g a = some (.inl x1)) (h2 : g b = some (.inl x2)) (h : x1.2.1 ≠ x2.2.1) : a ≠ b := fun q => by
  subst q; rw [h1] at h2; exact h (congrArg (fun z : Option va_E => match z with | some (Sum.inl x) => x.2.1 | _ => 0) h2)
theorem hp_nmq (C : String) (r : Option Nat) : narrow (.object C) (va_rf r) = va_rf r := by cases r <;> rfl
theorem hp_fitq (C : String) (r : Option Nat) : fits (.object C) (va_rf r) = true := by cases r <;> rfl
/-- place i of a row of n numbers, 0 outside -/
def rowAt (n : Int32) (f : Nat → Int64) (i : Int32) : Int64 := if ¬ i < 0 ∧ i < n then f i.toNatClampNeg else 0
theorem rowAt_in {n i : Int32} {f : Nat → Int64} (h : ¬ i < 0) (h2 : i < n) : rowAt n f i = f i.toNatClampNeg := if_pos ⟨h, h2⟩
theorem rowAt_lo {n i : Int32} {f : Nat → Int64} (h : i < 0) : rowAt n f i = 0 := if_neg (fun q => q.1 h)
theorem rowAt_hi {n i : Int32} {f : Nat → Int64} (h : n ≤ i) : rowAt n f i = 0 := if_neg (fun q => absurd q.2 (Int32.not_lt.mpr h))
/-- an index that was tested is in the room -/
theorem row_in {n i : Int32} {N : Nat} (h : ¬ i < 0) (h2 : i < n) (hN : n.toInt ≤ (N : Int)) : vp_in i N := by
  rw [vp_in_iff]
  rw [Int32.lt_iff_toInt_lt] at h2
  have h0 : ¬ i.toInt < 0 := fun q => h (by rw [Int32.lt_iff_toInt_lt, Int32.toInt_zero]; exact q)
  omega
