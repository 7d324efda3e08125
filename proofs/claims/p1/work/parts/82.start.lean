/-! the start of the law: classes, array classes, what is true outside -/
theorem ar_prim {s : State} {args : Array Value} {ty : FieldType} (h : (Cond.arrayClass ty).before args s = true) (hp : ∀ C, ty ≠ .object C) : ∃ cA : ClassId, ArrOfT s cA ty ∧ va_RA s cA ty := by
  obtain ⟨c, k, comp, h1, h2, h3⟩ := Cond.arrayClass_spec h
  refine ⟨c, fun n z => ⟨fun k h => (by cases h), k, h2, comp, h3⟩, ?_⟩
  cases ty with
  | object C => exact absurd rfl (hp C)
  | _ => exact h1
theorem ar_obj {s : State} {C : String} (h : va_AO C s) : ∃ cA : ClassId, ArrOfT s cA (.object C) ∧ va_RA s cA (.object C) := by
  obtain ⟨comp, c, k, h1, h2, h3, h4, h5⟩ := Cond.arrayOver_spec h
  exact ⟨c, fun n z => ⟨fun k h => (by cases h), k, h3, comp, h4⟩, k, comp, h3, h4, h1, h5⟩
theorem ar_all {s : State} {args : Array Value} (h0 : (Cond.arrayClass .byte).before args s = true) (h1 : (Cond.arrayClass .int).before args s = true) (h2 : (Cond.arrayClass .long).before args s = true) (h3 : (Cond.arrayClass .boolean).before args s = true) (h4 : va_AO "WardenHouse$Right" s) (h5 : va_AO "WardenHouse$Strand" s) (h6 : va_AO "WardenHouse$Unit" s) : ∃ cA : Nat → ClassId, ∀ (k : Nat) (q : ClassId × FieldType), (hp_Tl cA)[k]? = some q → ArrOfT s q.1 q.2 ∧ va_RA s q.1 q.2 := by
  obtain ⟨c0, a0⟩ := ar_prim h0 (fun C h => by cases h)
  obtain ⟨c1, a1⟩ := ar_prim h1 (fun C h => by cases h)
  obtain ⟨c2, a2⟩ := ar_prim h2 (fun C h => by cases h)
  obtain ⟨c3, a3⟩ := ar_prim h3 (fun C h => by cases h)
  obtain ⟨c4, a4⟩ := ar_obj h4
  obtain ⟨c5, a5⟩ := ar_obj h5
  obtain ⟨c6, a6⟩ := ar_obj h6
  refine ⟨fun k => match k with | 0 => c0 | 1 => c1 | 2 => c2 | 3 => c3 | 4 => c4 | 5 => c5 | _ => c6, fun k q hq => ?_⟩
  match k, hq with
  | 0, hq => cases hq; exact a0
  | 1, hq => cases hq; exact a1
  | 2, hq => cases hq; exact a2
  | 3, hq => cases hq; exact a3
  | 4, hq => cases hq; exact a4
  | 5, hq => cases hq; exact a5
  | 6, hq => cases hq; exact a6
  | k + 7, hq => simp at hq
