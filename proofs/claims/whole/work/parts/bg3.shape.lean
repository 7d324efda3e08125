/-! the shape of the stack at each place of a script: values, and tries that are on -/
abbrev SH : Type := Option Int32
abbrev SS2 : Type := List SH × Bool
def pops (m : md_S) (e : EN) : Nat :=
  if e.1 = 3 ∨ e.1 = 5 ∨ e.1 = 16 ∨ e.1 = 18 ∨ e.1 = 21 ∨ e.1 = 22 ∨ e.1 = 23 ∨ e.1 = 24 ∨ e.1 = 28 then 1
  else if e.1 = 6 ∨ e.1 = 11 ∨ e.1 = 12 ∨ e.1 = 13 ∨ e.1 = 14 ∨ e.1 = 15 then 2
  else if e.1 = 7 then oN e.2.2 + 1 else if e.1 = 8 then oN e.2.1 + 1
  else if e.1 = 9 then aN m 44 (oN e.2.1)
  else if e.1 = 10 then (if mA m 36 (oN e.2.1) = 4 then 1 else 0) + aN m 44 (oN e.2.1)
  else if e.1 = 25 ∨ e.1 = 26 then (if mA m 136 (oN e.2.1) = 1 then 1 else 0) else 0
def pshL : List Int32 := [3, 16, 17, 18, 28]
def psh (e : EN) : List SH := if e.1 ∈ pshL then [] else [none]
/-- Λ: the shape at each label; the mark says that a jump was just made -/
def stp (m : md_S) (Λ : Int32 → List SH) (st : SS2) (e : EN) : SS2 :=
  if e.1 = 100 then (Λ e.2.1, false)
  else if e.1 = 17 then (st.1, true)
  else if e.1 = 18 then (st.1.drop 1, false)
  else if e.1 = 19 then (some e.2.1 :: st.1, false)
  else if e.1 = 20 then (none :: st.1.drop 2, false)
  else (psh e ++ st.1.drop (pops m e), false)
def oke (m : md_S) (Λ : Int32 → List SH) (st : SS2) (e : EN) : Prop :=
  (e.1 = 100 → st.2 = true ∨ st.1 = Λ e.2.1) ∧ (e.1 ≠ 100 → st.2 = false) ∧ (e.1 = 17 → Λ e.2.1 = st.1) ∧ (e.1 = 18 → Λ e.2.1 = st.1.drop 1) ∧ (e.1 = 19 → Λ e.2.1 = none :: st.1) ∧ (e.1 = 20 → ∃ l r, st.1 = none :: some l :: r) ∧ (e.1 ≠ 100 → e.1 ≠ 20 → ∃ r, st.1 = List.replicate (pops m e) none ++ r)
def vls (s : List SH) : Nat := (s.filter (fun x => x.isNone)).length
def mks (s : List SH) : Nat := (s.filter (fun x => x.isSome)).length
def bnd (W Q : Nat) (s : List SH) : Prop := vls s ≤ W ∧ mks s ≤ Q
def TYP (m : md_S) (W Q : Nat) (Λ : Int32 → List SH) : SS2 → List EN → Prop
  | st, [] => bnd W Q st.1
  | st, e :: r => bnd W Q st.1 ∧ oke m Λ st e ∧ TYP m W Q Λ (stp m Λ st e) r
def scn (m : md_S) (Λ : Int32 → List SH) (st : SS2) (l : List EN) : SS2 := l.foldl (stp m Λ) st
theorem scn_app (m : md_S) (Λ : Int32 → List SH) (st : SS2) (a b : List EN) : scn m Λ st (a ++ b) = scn m Λ (scn m Λ st a) b := List.foldl_append
theorem scn_one (m : md_S) (Λ : Int32 → List SH) (st : SS2) (e : EN) : scn m Λ st [e] = stp m Λ st e := rfl
theorem scn_cons (m : md_S) (Λ : Int32 → List SH) (st : SS2) (e : EN) (r : List EN) : scn m Λ st (e :: r) = scn m Λ (stp m Λ st e) r := rfl
theorem TYP.end_ {m : md_S} {W Q : Nat} {Λ : Int32 → List SH} : ∀ {l : List EN} {st : SS2}, TYP m W Q Λ st l → bnd W Q (scn m Λ st l).1
  | [], _, h => h
  | e :: r, st, h => TYP.end_ (l := r) h.2.2
theorem TYP.app {m : md_S} {W Q : Nat} {Λ : Int32 → List SH} : ∀ {a b : List EN} {st : SS2}, TYP m W Q Λ st a → TYP m W Q Λ (scn m Λ st a) b → TYP m W Q Λ st (a ++ b)
  | [], _, _, _, h2 => h2
  | e :: r, b, st, h, h2 => ⟨h.1, h.2.1, TYP.app (a := r) h.2.2 h2⟩
theorem TYP.sp {m : md_S} {W Q : Nat} {Λ : Int32 → List SH} : ∀ {a b : List EN} {st : SS2}, TYP m W Q Λ st (a ++ b) → TYP m W Q Λ st a ∧ TYP m W Q Λ (scn m Λ st a) b
  | [], b, st, h => ⟨by
      cases b with
      | nil => exact h
      | cons e r => exact h.1, h⟩
  | e :: r, b, st, h => by
      obtain ⟨h1, h2⟩ := TYP.sp (a := r) h.2.2
      exact ⟨⟨h.1, h.2.1, h1⟩, h2⟩
theorem vls_rep (k : Nat) (s : List SH) : vls (List.replicate k none ++ s) = k + vls s ∧ mks (List.replicate k none ++ s) = mks s := by
  induction k with
  | zero => simp
  | succ k ih =>
    rw [List.replicate_succ, List.cons_append]
    obtain ⟨h1, h2⟩ := ih
    unfold vls mks at *
    rw [List.filter_cons, List.filter_cons]
    simp only [Option.isNone_none, Option.isSome_none, if_true, Bool.false_eq_true, if_false, List.length_cons]
    omega
theorem vls_n (s : List SH) : vls (none :: s) = 1 + vls s ∧ mks (none :: s) = mks s := vls_rep 1 s
theorem vls_m (l : Int32) (s : List SH) : vls (some l :: s) = vls s ∧ mks (some l :: s) = 1 + mks s := by
  constructor
  · rfl
  · show (some l :: s.filter (fun x => x.isSome)).length = _
    rw [List.length_cons, Nat.add_comm]
    rfl
/-- Λ is as Λ0 at labels l0 to l1 -/
def LA (l0 l1 : Nat) (Λ Λ0 : Int32 → List SH) : Prop := ∀ k, l0 ≤ k → k < l1 → Λ (nI k) = Λ0 (nI k)
theorem LA.glue {l0 la l1 : Nat} (h : l1 < 2 ^ 31) (a : l0 ≤ la) (b : la ≤ l1) (A B : Int32 → List SH) : ∃ Λ0 : Int32 → List SH, ∀ Λ, LA l0 l1 Λ Λ0 → LA l0 la Λ A ∧ LA la l1 Λ B := by
  refine ⟨fun l => @ite _ (∃ k, l0 ≤ k ∧ k < la ∧ l = nI k) (Classical.propDecidable _) (A l) (B l), fun Λ h0 => ⟨fun k k1 k2 => ?_, fun k k1 k2 => ?_⟩⟩
  · rw [h0 k k1 (by omega)]
    exact if_pos ⟨k, k1, k2, rfl⟩
  · rw [h0 k (by omega) k2]
    exact if_neg (fun ⟨j, j1, j2, j3⟩ => by have := (nI_eq (by omega) (by omega)).mp j3; omega)
/-- what the script of an expression does: from shape s to a value on s -/
def EXS (m : md_S) (W Q w q l0 l1 : Nat) (es : List EN) : Prop := ∀ s : List SH, vls s + w ≤ W → mks s + q ≤ Q → ∃ Λ0 : Int32 → List SH, ∀ Λ, LA l0 l1 Λ Λ0 → TYP m W Q Λ (s, false) es ∧ scn m Λ (s, false) es = (none :: s, false)
/-- an ordinary entry that pops k values and leaves one -/
theorem stp_o {m : md_S} {e : EN} {Λ : Int32 → List SH} {s : List SH} {k : Nat} (hk : e.1 ≠ 100 ∧ e.1 ≠ 17 ∧ e.1 ≠ 18 ∧ e.1 ≠ 19 ∧ e.1 ≠ 20) (hp : pops m e = k) (hs : e.1 ∉ pshL) : stp m Λ (List.replicate k none ++ s, false) e = (none :: s, false) ∧ oke m Λ (List.replicate k none ++ s, false) e := by
  obtain ⟨h1, h2, h3, h4, h5⟩ := hk
  refine ⟨?_, fun y => absurd y h1, fun _ => rfl, fun y => absurd y h2, fun y => absurd y h3, fun y => absurd y h4, fun y => absurd y h5, fun _ _ => ⟨s, by rw [hp]⟩⟩
  unfold stp psh
  rw [if_neg h1, if_neg h2, if_neg h3, if_neg h4, if_neg h5, if_neg hs, hp]
  simp
/-- one that pops a value and leaves none -/
theorem stp_p {m : md_S} {e : EN} {Λ : Int32 → List SH} {s : List SH} (h : e.1 = 3 ∨ e.1 = 16) : stp m Λ (none :: s, false) e = (s, false) ∧ oke m Λ (none :: s, false) e := by
  have hp : pops m e = 1 := by unfold pops; rw [if_pos (h.elim (fun y => Or.inl y) (fun y => Or.inr (Or.inr (Or.inl y))))]
  have hn : e.1 ≠ 100 ∧ e.1 ≠ 17 ∧ e.1 ≠ 18 ∧ e.1 ≠ 19 ∧ e.1 ≠ 20 ∧ e.1 ∈ pshL := by rcases h with h | h <;> rw [h] <;> decide
  obtain ⟨h1, h2, h3, h4, h5, h6⟩ := hn
  refine ⟨?_, fun y => absurd y h1, fun _ => rfl, fun y => absurd y h2, fun y => absurd y h3, fun y => absurd y h4, fun y => absurd y h5, fun _ _ => ⟨s, by rw [hp]; rfl⟩⟩
  unfold stp psh
  rw [if_neg h1, if_neg h2, if_neg h3, if_neg h4, if_neg h5, if_pos h6, hp]
  rfl
/-- children one after the other -/
theorem GL.exs {m : md_S} {W Q : Nat} {G : Nat → Nat → Nat → List EN → List Nat → Prop} {wq : Nat → Nat × Nat} : ∀ {ch : List Nat} {l0 l1 c0 : Nat} {ess : List (List EN)} {ns : List Nat}, GL G ch l0 l1 ess ns → l1 < 2 ^ 31 → (∀ (k x a b : Nat) (e : List EN) (nx : List Nat), ch[k]? = some x → G x a b e nx → a ≤ b ∧ EXS m W Q (wq (c0 + k)).1 (wq (c0 + k)).2 a b e) → l0 ≤ l1 ∧ ∀ s : List SH, (∀ k, k < ch.length → vls s + k + (wq (c0 + k)).1 ≤ W ∧ mks s + (wq (c0 + k)).2 ≤ Q) → bnd W Q s → ∃ Λ0 : Int32 → List SH, ∀ Λ, LA l0 l1 Λ Λ0 → TYP m W Q Λ (s, false) ess.flatten ∧ scn m Λ (s, false) ess.flatten = (List.replicate ch.length none ++ s, false)
  | [], l0, l1, c0, ess, ns, ⟨h1, h2, _⟩, _, _ => ⟨by omega, fun s _ hb => ⟨fun _ => [], fun Λ _ => by
      rw [h2]
      exact ⟨hb, rfl⟩⟩⟩
  | x :: xs, l0, l1, c0, ess, ns, ⟨la, es, rest, n1, n2, h1, h2, h3, h4⟩, hl, hG => by
      obtain ⟨g1, g2⟩ := hG 0 x l0 la es n1 rfl h1
      obtain ⟨i1, i2⟩ := GL.exs (wq := wq) (c0 := c0 + 1) h2 hl (fun k y a b e nx hy hg => by
        have := hG (k + 1) y a b e nx (by rw [List.getElem?_cons_succ]; exact hy) hg
        rw [show c0 + 1 + k = c0 + (k + 1) by omega]; exact this)
      refine ⟨by omega, fun s hk hb => ?_⟩
      have k0 := hk 0 (by simp)
      have hv := vls_n s
      obtain ⟨A, hA⟩ := g2 s (by omega) (by omega)
      have bA := (hA A (fun _ _ _ => rfl)).1.end_
      rw [(hA A (fun _ _ _ => rfl)).2] at bA
      obtain ⟨Z, hZ⟩ := i2 (none :: s) (fun k hk2 => by
        have := hk (k + 1) (by simp; omega)
        rw [show c0 + 1 + k = c0 + (k + 1) by omega]
        omega) bA
      obtain ⟨Λ0, h0⟩ := LA.glue hl g1 i1 A Z
      refine ⟨Λ0, fun Λ hΛ => ?_⟩
      obtain ⟨d1, d2⟩ := h0 Λ hΛ
      obtain ⟨t1, t2⟩ := hA Λ d1
      obtain ⟨u1, u2⟩ := hZ Λ d2
      rw [h3, List.flatten_cons]
      refine ⟨t1.app (by rw [t2]; exact u1), ?_⟩
      rw [scn_app, t2, u2, List.length_cons]
      congr 1
      rw [show (none : SH) :: s = List.replicate 1 none ++ s from rfl, ← List.append_assoc, List.replicate_append_replicate]
