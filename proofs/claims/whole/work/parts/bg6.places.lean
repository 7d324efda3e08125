/-! places of a plain code, and the stack there -/
def hd0 : EN → Bool := fun _ => false
theorem hdF_f {m : md_S} {S : Nat → Prop} : hdF m S false = hd0 := by
  funext e
  cases h : hdF m S false e
  · rfl
  · exact absurd (hdF_iff.mp h).1 (by decide)
/-- entry e stands at byte pc, where the stack has shape s -/
def TPL (m : md_S) (Λ : Int32 → List SH) (L : Nat) (lo P : Int32 → Nat) (E : List EN) (pc : Nat) (s : List SH) (e : EN) : Prop :=
  ∃ a b, E = a ++ e :: b ∧ e.1 ≠ 100 ∧ pc = (ebs hd0 L lo P a).length ∧ scn m Λ ([], false) a = (s, false)
/-- a unit's script, typed: all that a step may rely on -/
def TE (m : md_S) (Λ : Int32 → List SH) (L : Nat) (lo P : Int32 → Nat) (E : List EN) : Prop :=
  TYP m 149 24 Λ ([], false) E ∧ (∃ es, E = es ++ [eE] ∧ scn m Λ ([], false) es = ([none], false) ∧ ∀ e, e ∈ es → e.1 ≠ 28) ∧ (∀ e, e ∈ E → e.1 = 17 ∨ e.1 = 18 ∨ e.1 = 19 → e.2.1 ∈ lbs E) ∧ ∀ a b l z, E = a ++ ((100 : Int32), l, z) :: b → P l = (ebs hd0 L lo P a).length
theorem TPL.ok {m : md_S} {Λ : Int32 → List SH} {L : Nat} {lo P : Int32 → Nat} {E : List EN} {pc : Nat} {s : List SH} {e : EN} (h : TPL m Λ L lo P E pc s e) (hT : TE m Λ L lo P E) : bnd 149 24 s ∧ oke m Λ (s, false) e := by
  obtain ⟨a, b, h1, h2, h3, h4⟩ := h
  have ht := hT.1
  rw [h1] at ht
  have := ht.sp.2
  rw [h4] at this
  exact ⟨this.1, this.2.1⟩
/-- behind labels there is an entry, and the shape is the same -/
theorem TE.skip {m : md_S} {Λ : Int32 → List SH} {L : Nat} {lo P : Int32 → Nat} {E : List EN} (hT : TE m Λ L lo P E) {s : List SH} : ∀ (b a : List EN), E = a ++ b → b ≠ [] → scn m Λ ([], false) a = (s, false) → ∃ e, TPL m Λ L lo P E (ebs hd0 L lo P a).length s e
  | [], a, _, hb, _ => absurd rfl hb
  | e :: b, a, hE, _, hs => by
      by_cases h1 : e.1 = 100
      · have ht := hT.1
        rw [hE] at ht
        have h2 := ht.sp.2
        rw [hs] at h2
        have ho := h2.2.1.1 h1
        have hc : s = Λ e.2.1 := ho.elim (fun y => absurd (show false = true from y) (by decide)) (fun y => y)
        have hst : stp m Λ (s, false) e = (s, false) := by
          unfold stp
          rw [if_pos h1, ← hc]
        have hbne : b ≠ [] := by
          intro hb
          obtain ⟨es, e1, -, -⟩ := hT.2.1
          rw [hb, e1] at hE
          have := List.append_inj' hE rfl
          have h3 : eE = e := by simpa using this.2
          rw [← h3] at h1
          exact absurd h1 (by decide)
        obtain ⟨e', h5⟩ := TE.skip hT b (a ++ [e]) (by rw [List.append_assoc]; exact hE) hbne (by rw [scn_app, hs, scn_one, hst])
        refine ⟨e', ?_⟩
        have : (ebs hd0 L lo P (a ++ [e])).length = (ebs hd0 L lo P a).length := by
          rw [ebs_app, List.length_append, ebs_one]
          have : eb hd0 L lo P e = [] := if_pos h1
          rw [this]; rfl
        rw [this] at h5
        exact h5
      · exact ⟨e, a, b, hE, h1, rfl, hs⟩
theorem TE.start {m : md_S} {Λ : Int32 → List SH} {L : Nat} {lo P : Int32 → Nat} {E : List EN} (hT : TE m Λ L lo P E) : ∃ e, TPL m Λ L lo P E 0 [] e := by
  refine hT.skip E [] rfl ?_ rfl
  obtain ⟨es, e1, -, -⟩ := hT.2.1
  rw [e1]
  simp
/-- on to the next entry -/
theorem TPL.next {m : md_S} {Λ : Int32 → List SH} {L : Nat} {lo P : Int32 → Nat} {E : List EN} {pc : Nat} {s : List SH} {e : EN} (h : TPL m Λ L lo P E pc s e) (hT : TE m Λ L lo P E) (h17 : e.1 ≠ 17) (h28 : e.1 ≠ 28) : ∃ e', TPL m Λ L lo P E (pc + (eb hd0 L lo P e).length) (stp m Λ (s, false) e).1 e' := by
  obtain ⟨a, b, h1, h2, h3, h4⟩ := h
  have hst : stp m Λ (s, false) e = ((stp m Λ (s, false) e).1, false) := by
    unfold stp
    rw [if_neg h2, if_neg h17]
    split
    · rfl
    · split
      · rfl
      · split <;> rfl
  have hbne : b ≠ [] := by
    intro hb
    obtain ⟨es, e1, -, -⟩ := hT.2.1
    rw [hb, e1] at h1
    have := List.append_inj' h1 rfl
    have h3 : eE = e := by simpa using this.2
    rw [← h3] at h28
    exact absurd rfl h28
  obtain ⟨e', h5⟩ := hT.skip b (a ++ [e]) (by rw [List.append_assoc]; exact h1) hbne (s := (stp m Λ (s, false) e).1) (by rw [scn_app, h4, scn_one]; exact hst)
  rw [ebs_app, List.length_append, ebs_one, ← h3] at h5
  exact ⟨e', h5⟩
/-- where a jump leads -/
theorem TPL.jump {m : md_S} {Λ : Int32 → List SH} {L : Nat} {lo P : Int32 → Nat} {E : List EN} {pc : Nat} {s : List SH} {e : EN} (h : TPL m Λ L lo P E pc s e) (hT : TE m Λ L lo P E) (hj : e.1 = 17 ∨ e.1 = 18 ∨ e.1 = 19) : ∃ e', TPL m Λ L lo P E (P e.2.1) (Λ e.2.1) e' := by
  obtain ⟨a, b, h1, -⟩ := h
  have hm : e ∈ E := by rw [h1]; simp
  obtain ⟨a2, z, b2, hE⟩ := lbs_mem (hT.2.2.1 e hm hj)
  have hP := hT.2.2.2 a2 b2 e.2.1 z hE
  have hbne : b2 ≠ [] := by
    intro hb
    obtain ⟨es, e1, -, -⟩ := hT.2.1
    rw [hb, e1] at hE
    have := List.append_inj' hE rfl
    have h3 : eE = (100, e.2.1, z) := by simpa using this.2
    exact absurd (show (28 : Int32) = 100 from congrArg Prod.fst h3) (by decide)
  obtain ⟨e', h5⟩ := hT.skip b2 (a2 ++ [(100, e.2.1, z)]) (by rw [List.append_assoc]; exact hE) hbne (s := Λ e.2.1) (by rw [scn_app, scn_one]; rfl)
  refine ⟨e', ?_⟩
  have : (ebs hd0 L lo P (a2 ++ [((100 : Int32), e.2.1, z)])).length = P e.2.1 := by
    rw [ebs_app, List.length_append, ebs_one, hP]
    have : eb hd0 L lo P (100, e.2.1, z) = [] := if_pos rfl
    rw [this]; rfl
  rw [this] at h5
  exact h5
/-- a code ends with one value -/
theorem TPL.last {m : md_S} {Λ : Int32 → List SH} {L : Nat} {lo P : Int32 → Nat} {E : List EN} {pc : Nat} {s : List SH} {e : EN} (h : TPL m Λ L lo P E pc s e) (hT : TE m Λ L lo P E) (h28 : e.1 = 28) : s = [none] := by
  obtain ⟨a, b, h1, h2, h3, h4⟩ := h
  obtain ⟨es, e1, e2, e3⟩ := hT.2.1
  have hb : b = [] := by
    rcases List.eq_nil_or_concat b with hb | ⟨b', x, hb⟩
    · exact hb
    · exfalso
      rw [hb, e1, List.concat_eq_append] at h1
      have h5 : es ++ [eE] = (a ++ e :: b') ++ [x] := by rw [h1]; simp
      have := List.append_inj' h5 rfl
      exact e3 e (by rw [this.1]; simp) h28
  rw [hb, e1] at h1
  have := List.append_inj' h1 rfl
  rw [← this.1, e2] at h4
  exact (congrArg Prod.fst h4).symm
/-- the bytes at a place -/
theorem TPL.bytes {m : md_S} {Λ : Int32 → List SH} {L : Nat} {lo P : Int32 → Nat} {E : List EN} {pc : Nat} {s : List SH} {e : EN} (h : TPL m Λ L lo P E pc s e) : pc + (eb hd0 L lo P e).length ≤ (ebs hd0 L lo P E).length ∧ ∀ x, x < (eb hd0 L lo P e).length → (ebs hd0 L lo P E).getD (pc + x) 0 = (eb hd0 L lo P e).getD x 0 := by
  obtain ⟨a, b, h1, h2, h3, h4⟩ := h
  rw [h1, ebs_app, ebs_cons, h3]
  refine ⟨by rw [List.length_append, List.length_append]; omega, fun x hx => ?_⟩
  rw [List.getD_eq_getElem?_getD, List.getElem?_append_right (by omega), show (ebs hd0 L lo P a).length + x - (ebs hd0 L lo P a).length = x by omega, List.getElem?_append_left hx, ← List.getD_eq_getElem?_getD]
theorem GL.no28 {m : md_S} {u f : Nat} (ih : ∀ {x a b : Nat} {e : List EN} {nx : List Nat}, Gen m u f x a b e nx → ∀ y, y ∈ e → y.1 ≠ 28) : ∀ {ch : List Nat} {l0 l1 : Nat} {ess : List (List EN)} {ns : List Nat}, GL (Gen m u f) ch l0 l1 ess ns → ∀ y, y ∈ ess.flatten → y.1 ≠ 28
  | [], _, _, ess, _, ⟨_, h, _⟩, y, hy => by rw [h] at hy; exact absurd hy (by simp)
  | x :: xs, l0, l1, ess, ns, ⟨la, es, rest, n1, n2, h1, h2, h3, h4⟩, y, hy => by
      rw [h3, List.flatten_cons] at hy
      rcases List.mem_append.mp hy with hy | hy
      · exact ih h1 y hy
      · exact GL.no28 ih h2 y hy
theorem WFN.n28 {m : md_S} {i j : Nat} (h : WFN m i j) : mA m 66 i ≠ 28 := fun y => by
  unfold WFN at h
  rw [y] at h
  simp (decide := true) at h
theorem Gen.no28 {m : md_S} {u : Nat} : ∀ {f : Nat} {i l0 l1 : Nat} {es : List EN} {ns : List Nat}, Gen m u f i l0 l1 es ns → ∀ y, y ∈ es → y.1 ≠ 28
  | 0, _, _, _, _, _, h, _, _ => h.elim
  | f + 1, i, l0, l1, es, ns, ⟨h1, h2, ch, ess, n1, h3, h4, h5, h6, h7⟩, y, hy => by
      have hw : WFN m i ess.length := by rw [h4.len]; exact h7
      rw [h5] at hy
      rcases cmb_mem hw hy with z | z | z
      · exact GL.no28 (fun h => Gen.no28 h) h4 y z
      · exact fun q => by rw [q] at z; exact absurd z (by decide)
      · rw [z]; exact hw.n28
/-- the plain code of a unit of the plan is typed -/
theorem COD.te {n : Nat} {c0 : cd_S} {m : md_S} {u : Nat} {S : Nat → Prop} {bs : List Nat} (h : COD n c0 m u S false bs) (hgw : ∀ r, mA m 41 u = nI r → r < 900 → ∃ g, GW m g r 149 24) : ∃ Λ L lo P E, LLO n m u L lo ∧ bs = ebs hd0 L lo P E ∧ TE m Λ L lo P E ∧ rL c0 (17 + 3 * u) = fE E ∧ ∃ f r es l ns, E = es ++ [eE] ∧ mA m 41 u = nI r ∧ Gen m u f r 0 l es ns ∧ l ≤ 400 := by
  obtain ⟨f, r, es, l, ns, L, lo, pre, ⟨r1, r2, r3, r4, r5, r6, r7, r8⟩, hll, hpre, hbs⟩ := h
  have hp : pre = [] := hpre.2 (fun y => absurd y.1 (by decide))
  rw [hp, hdF_f] at hbs
  obtain ⟨g, hg⟩ := hgw r r2 r1
  obtain ⟨Λ, hΛ⟩ := Gen.exs (W := 149) (Q := 24) r3 (by omega) hg [] (by decide) (by decide)
  obtain ⟨t1, t2⟩ := hΛ Λ (fun _ _ _ => rfl)
  obtain ⟨P, hP⟩ : ∃ P, P = plF hd0 L lo 0 (es ++ [eE]) := ⟨_, rfl⟩
  have hnd : (lbs (es ++ [eE])).Nodup := by rw [lbs_e]; exact r3.lbl.2.1 (by omega)
  refine ⟨Λ, L, lo, P, es ++ [eE], hll, by rw [hP]; exact hbs, ⟨?_, ⟨es, rfl, t2, r3.no28⟩, fun e he hj => ?_, fun a b l' z hE => ?_⟩, r8, f, r, es, l, ns, rfl, r2, r3, r7⟩
  · refine t1.app ?_
    rw [t2]
    refine ⟨by show bnd 149 24 [none]; exact ⟨by decide, by decide⟩, ⟨fun y => absurd y (by decide), fun _ => rfl, fun y => absurd y (by decide), fun y => absurd y (by decide), fun y => absurd y (by decide), fun y => absurd y (by decide), fun _ _ => ⟨[], rfl⟩⟩, ?_⟩
    have e0 : stp m Λ ([none], false) eE = ([], false) := rfl
    rw [e0]
    exact (⟨by decide, by decide⟩ : bnd 149 24 [])
  · rw [lbs_e]
    rcases List.mem_append.mp he with he | he
    · exact r3.jm e he hj
    · rw [List.mem_singleton.mp he] at hj
      exact absurd hj (by decide)
  · have hL := plF_LR (hd := hd0) (L := L) (off := 0) (lo := lo) (P := P) (es := es ++ [eE]) (r := []) (by rw [List.append_nil]; exact hnd) a b l' z hE
    rw [List.append_nil, ← hP, Nat.zero_add] at hL
    exact hL
