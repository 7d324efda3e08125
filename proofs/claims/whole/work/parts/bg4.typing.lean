/-! each tree's script keeps the stack in shape -/
theorem WFN.pps {m : md_S} {i j : Nat} (h : WFN m i j) (hk : mA m 66 i ≠ 40 ∧ mA m 66 i ≠ 41 ∧ mA m 66 i ≠ 19 ∧ mA m 66 i ≠ 42 ∧ mA m 66 i ≠ 2) : pops m (nE m i) = (if mA m 66 i = 9 ∨ mA m 66 i = 10 then aN m 44 (aN m 68 i) else 0) + j ∧ (mA m 66 i ≠ 100 ∧ mA m 66 i ≠ 17 ∧ mA m 66 i ≠ 18 ∧ mA m 66 i ≠ 19 ∧ mA m 66 i ≠ 20) ∧ mA m 66 i ∉ pshL := by
  obtain ⟨n1, n2, n3, n4, n5⟩ := hk
  have o68 : oN (mA m 68 i) = aN m 68 i := rfl
  unfold pops nE
  dsimp only
  rcases h with ⟨a, b, -⟩ | ⟨a, b, -⟩ | ⟨a, -⟩ | ⟨a, b, -⟩ | ⟨a, -⟩ | ⟨a, -, k, k1, k2, b⟩ | ⟨a, -, k, k1, k2, b⟩ | ⟨a, -⟩ | ⟨a, b, -⟩ | ⟨a, b, -⟩ | ⟨a, b, -⟩ | ⟨a, -⟩ | ⟨a, -⟩ | ⟨a, -⟩
  · rw [a, b]; exact ⟨by simp (decide := true), by decide, by decide⟩
  · rcases a with a | a
    · rw [a, b]; exact ⟨by simp (decide := true), by decide, by decide⟩
    · rw [a, b]; exact ⟨by simp (decide := true), by decide, by decide⟩
  · exact absurd a n5
  · rw [a, b]; exact ⟨by simp (decide := true), by decide, by decide⟩
  · rcases a with ⟨a, b⟩ | ⟨a, b⟩
    · rw [a, b]; exact ⟨by simp (decide := true), by decide, by decide⟩
    · rw [a, b]; exact ⟨by simp (decide := true), by decide, by decide⟩
  · rw [a, b, k1, oN_nI (by omega)]; exact ⟨by simp (decide := true), by decide, by decide⟩
  · rw [a, b, k1, oN_nI (by omega)]; exact ⟨by simp (decide := true), by decide, by decide⟩
  · rcases a with ⟨a, b⟩ | ⟨a, b⟩
    · rw [a, b, o68]; exact ⟨by simp (decide := true), by decide, by decide⟩
    · rw [a, o68]
      refine ⟨?_, by decide, by decide⟩
      by_cases h4 : mA m 36 (aN m 68 i) = 4
      · rw [b.2.mpr h4, h4]
        simp (decide := true)
        omega
      · have : j = 0 := by
          have := b.1
          have h1 : j ≠ 1 := fun y => h4 (b.2.mp y)
          omega
        rw [this, if_neg h4]
        simp (decide := true)
  · rcases a with a | a | a | a | a <;> (rw [a, b]; exact ⟨by simp (decide := true), by decide, by decide⟩)
  · rcases a with a | a | a | a <;> (rw [a, b]; exact ⟨by simp (decide := true), by decide, by decide⟩)
  · have hj : (if mA m 136 (aN m 68 i) = 1 then 1 else 0) = j := by
      by_cases h1 : mA m 136 (aN m 68 i) = 1
      · rw [if_pos h1, b.2.mpr h1]
      · rw [if_neg h1]
        have := b.1
        have h2 : j ≠ 1 := fun y => h1 (b.2.mp y)
        omega
    rcases a with a | a
    · rw [a, o68, hj]; exact ⟨by simp (decide := true), by decide, by decide⟩
    · rw [a, o68, hj]; exact ⟨by simp (decide := true), by decide, by decide⟩
  · rcases a with a | a
    · exact absurd a n1
    · exact absurd a n3
  · exact absurd a n2
  · exact absurd a n4
theorem GL.bd {G : Nat → Nat → Nat → List EN → List Nat → Prop} (hG : ∀ {x a b : Nat} {e : List EN} {n : List Nat}, G x a b e n → a ≤ b) : ∀ {ch : List Nat} {l0 l1 : Nat} {ess : List (List EN)} {ns : List Nat}, GL G ch l0 l1 ess ns → l0 ≤ l1 ∧ ∀ {M : Nat}, l1 ≤ M → GL (fun x a b e n => G x a b e n ∧ b ≤ M) ch l0 l1 ess ns
  | [], _, _, _, _, h => ⟨by have := h.1; omega, fun _ => h⟩
  | x :: xs, l0, l1, ess, ns, ⟨la, es, rest, n1, n2, h1, h2, h3, h4⟩ => by
      obtain ⟨i1, i2⟩ := GL.bd (G := G) hG h2
      have := hG h1
      exact ⟨by omega, fun hM => ⟨la, es, rest, n1, n2, ⟨h1, by omega⟩, i2 hM, h3, h4⟩⟩
/-- gets -/
theorem get_exs {m : md_S} {W Q : Nat} {Λ : Int32 → List SH} : ∀ (l : List Int32) (s : List SH), vls s + l.length ≤ W → mks s ≤ Q → TYP m W Q Λ (s, false) (l.map (fun x => ((2 : Int32), x, (0 : Int32)))) ∧ scn m Λ (s, false) (l.map (fun x => ((2 : Int32), x, (0 : Int32)))) = (List.replicate l.length none ++ s, false)
  | [], s, h1, h2 => ⟨⟨by simp at h1; exact h1, h2⟩, rfl⟩
  | x :: l, s, h1, h2 => by
      have e := stp_o (m := m) (e := (2, x, 0)) (Λ := Λ) (s := s) (k := 0) (show (2 : Int32) ≠ 100 ∧ (2 : Int32) ≠ 17 ∧ (2 : Int32) ≠ 18 ∧ (2 : Int32) ≠ 19 ∧ (2 : Int32) ≠ 20 by decide) rfl (show (2 : Int32) ∉ pshL by decide)
      have hv := vls_n s
      rw [List.length_cons] at h1
      obtain ⟨i1, i2⟩ := get_exs (m := m) (W := W) (Q := Q) (Λ := Λ) l (none :: s) (by omega) (by omega)
      have e1 : stp m Λ (s, false) (2, x, 0) = (none :: s, false) := e.1
      refine ⟨⟨⟨by show vls s ≤ W; omega, h2⟩, e.2, ?_⟩, ?_⟩
      · rw [e1]; exact i1
      · rw [List.map_cons, scn_cons, e1, i2, List.length_cons]
        congr 1
        rw [show (none : SH) :: s = List.replicate 1 none ++ s from rfl, ← List.append_assoc, List.replicate_append_replicate]
theorem gts_map (m : md_S) (q : Nat) : ∃ l : List Int32, l.length = aN m 44 q ∧ gts m q = l.map (fun x => ((2 : Int32), x, (0 : Int32))) :=
  ⟨(List.range (aN m 44 q)).map (fun x => kv m (aN m 45 (16 * q + x))), by simp, by unfold gts; rw [List.map_map]; rfl⟩
/-- the other parts of a row; each has its labels behind those before -/
def RWL (m : md_S) (W Q w q : Nat) : Nat → Nat → List (List EN) → Prop
  | l0, l1, [] => l0 ≤ l1
  | l0, l1, e :: r => ∃ la, l0 ≤ la ∧ EXS m W Q w q l0 la e ∧ RWL m W Q w q la l1 r
theorem RWL.le {m : md_S} {W Q w q : Nat} : ∀ {r : List (List EN)} {l0 l1 : Nat}, RWL m W Q w q l0 l1 r → l0 ≤ l1
  | [], _, _, h => h
  | e :: r, l0, l1, ⟨la, h1, _, h3⟩ => Nat.le_trans h1 (RWL.le h3)
theorem row_exs {m : md_S} {W Q w q : Nat} : ∀ (r : List (List EN)) (l0 l1 : Nat), RWL m W Q w q l0 l1 r → l1 < 2 ^ 31 → ∀ (s : List SH), 1 ≤ w → vls s + w ≤ W → mks s + q ≤ Q → ∃ Λ0 : Int32 → List SH, ∀ Λ, LA l0 l1 Λ Λ0 → TYP m W Q Λ (none :: s, false) (r.flatMap (fun x => ((16 : Int32), (0 : Int32), (0 : Int32)) :: x)) ∧ scn m Λ (none :: s, false) (r.flatMap (fun x => ((16 : Int32), (0 : Int32), (0 : Int32)) :: x)) = (none :: s, false)
  | [], l0, l1, _, _, s, h1, h2, h3 => by
      have hv := vls_n s
      exact ⟨fun _ => [], fun Λ _ => ⟨⟨by show vls (none :: s) ≤ W; omega, by show mks (none :: s) ≤ Q; omega⟩, rfl⟩⟩
  | e :: r, l0, l1, ⟨la, a1, a2, a3⟩, hl, s, h1, h2, h3 => by
      have hv := vls_n s
      obtain ⟨A, hA⟩ := a2 s h2 h3
      obtain ⟨Z, hZ⟩ := row_exs r la l1 a3 hl s h1 h2 h3
      obtain ⟨Λ0, h0⟩ := LA.glue hl a1 a3.le A Z
      refine ⟨Λ0, fun Λ hΛ => ?_⟩
      obtain ⟨d1, d2⟩ := h0 Λ hΛ
      obtain ⟨t1, t2⟩ := hA Λ d1
      obtain ⟨u1, u2⟩ := hZ Λ d2
      have p := stp_p (m := m) (e := (16, 0, 0)) (Λ := Λ) (s := s) (Or.inr rfl)
      rw [List.flatMap_cons]
      refine ⟨⟨⟨by show vls (none :: s) ≤ W; omega, by show mks (none :: s) ≤ Q; omega⟩, p.2, ?_⟩, ?_⟩
      · rw [p.1]
        exact t1.app (by rw [t2]; exact u1)
      · rw [List.cons_append, scn_cons, p.1, scn_app, t2, u2]
