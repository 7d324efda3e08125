/-! each tree's script keeps the stack in shape: the theorem -/
theorem EXS.le {m : md_S} {W Q w q w2 q2 l0 l1 : Nat} {es : List EN} (h : EXS m W Q w q l0 l1 es) (hw : w ≤ w2) (hq : q ≤ q2) : EXS m W Q w2 q2 l0 l1 es := fun s h1 h2 => h s (by omega) (by omega)
theorem lnn2 {l : List Nat} (h : l.length = 2) : ∃ a b, l = [a, b] := by
  match l, h with
  | [a, b], _ => exact ⟨a, b, rfl⟩
theorem lnn3 {l : List Nat} (h : l.length = 3) : ∃ a b d, l = [a, b, d] := by
  match l, h with
  | [a, b, d], _ => exact ⟨a, b, d, rfl⟩
theorem if_exs {m : md_S} {W Q w q l0 la lb l1 : Nat} {e0 e1 e2 : List EN} (h1 : 1 ≤ w) (hl : l1 < 2 ^ 31) (a1 : l0 + 2 ≤ la) (a2 : la ≤ lb) (a3 : lb ≤ l1) (E0 : EXS m W Q w q (l0 + 2) la e0) (E1 : EXS m W Q w q la lb e1) (E2 : EXS m W Q w q lb l1 e2) : EXS m W Q w q l0 l1 (e0 ++ ([(18, nI l0, 0)] ++ (e1 ++ ([(17, nI (l0 + 1), 0), (100, nI l0, 0)] ++ (e2 ++ [(100, nI (l0 + 1), 0)]))))) := by
  intro s hv hq
  have vn := vls_n s
  have bn : bnd W Q (none :: s) := ⟨by omega, by omega⟩
  obtain ⟨A0, hA0⟩ := E0 s hv hq
  obtain ⟨A1, hA1⟩ := E1 s hv hq
  obtain ⟨A2, hA2⟩ := E2 s hv hq
  obtain ⟨B1, hB1⟩ := LA.glue hl a2 a3 A1 A2
  obtain ⟨B2, hB2⟩ := LA.glue (l0 := l0 + 2) hl a1 (by omega) A0 B1
  obtain ⟨B3, hB3⟩ := LA.glue (l0 := l0 + 1) (la := l0 + 2) hl (by omega) (by omega) (fun _ => none :: s) B2
  obtain ⟨B4, hB4⟩ := LA.glue (l0 := l0) (la := l0 + 1) hl (by omega) (by omega) (fun _ => s) B3
  refine ⟨B4, fun Λ hΛ => ?_⟩
  obtain ⟨c1, d1⟩ := hB4 Λ hΛ
  obtain ⟨c2, d2⟩ := hB3 Λ d1
  obtain ⟨c3, d3⟩ := hB2 Λ d2
  obtain ⟨c4, c5⟩ := hB1 Λ d3
  have z0 : Λ (nI l0) = s := c1 l0 (Nat.le_refl _) (by omega)
  have z1 : Λ (nI (l0 + 1)) = none :: s := c2 (l0 + 1) (Nat.le_refl _) (by omega)
  obtain ⟨t1, t2⟩ := hA0 Λ c3
  obtain ⟨u1, u2⟩ := hA1 Λ c4
  obtain ⟨v1, v2⟩ := hA2 Λ c5
  have sz : stp m Λ (none :: s, false) (18, nI l0, 0) = (s, false) := rfl
  have oz : oke m Λ (none :: s, false) (18, nI l0, 0) := ⟨fun y => absurd y (show ¬ (18 : Int32) = 100 by decide), fun _ => rfl, fun y => absurd y (show ¬ (18 : Int32) = 17 by decide), fun _ => z0, fun y => absurd y (show ¬ (18 : Int32) = 19 by decide), fun y => absurd y (show ¬ (18 : Int32) = 20 by decide), fun _ _ => ⟨s, rfl⟩⟩
  have sg : stp m Λ (none :: s, false) (17, nI (l0 + 1), 0) = (none :: s, true) := rfl
  have og : oke m Λ (none :: s, false) (17, nI (l0 + 1), 0) := ⟨fun y => absurd y (show ¬ (17 : Int32) = 100 by decide), fun _ => rfl, fun _ => z1, fun y => absurd y (show ¬ (17 : Int32) = 18 by decide), fun y => absurd y (show ¬ (17 : Int32) = 19 by decide), fun y => absurd y (show ¬ (17 : Int32) = 20 by decide), fun _ _ => ⟨none :: s, rfl⟩⟩
  have lab : ∀ (st : SS2) (l : Int32), (st.2 = true ∨ st.1 = Λ l) → oke m Λ st (100, l, 0) := fun st l h => ⟨fun _ => h, fun y => absurd rfl y, fun y => absurd y (show ¬ (100 : Int32) = 17 by decide), fun y => absurd y (show ¬ (100 : Int32) = 18 by decide), fun y => absurd y (show ¬ (100 : Int32) = 19 by decide), fun y => absurd y (show ¬ (100 : Int32) = 20 by decide), fun y => absurd rfl y⟩
  have sl : stp m Λ (none :: s, true) (100, nI l0, 0) = (s, false) := by
    show (Λ (nI l0), false) = _
    rw [z0]
  have sl2 : stp m Λ (none :: s, false) (100, nI (l0 + 1), 0) = (none :: s, false) := by
    show (Λ (nI (l0 + 1)), false) = _
    rw [z1]
  refine ⟨t1.app ?_, ?_⟩
  · rw [t2]
    refine ⟨bn, oz, ?_⟩
    rw [sz]
    refine u1.app ?_
    rw [u2]
    refine ⟨bn, og, ?_⟩
    rw [sg]
    refine ⟨bn, lab _ _ (Or.inl rfl), ?_⟩
    rw [sl]
    refine v1.app ?_
    rw [v2]
    exact ⟨bn, lab _ _ (Or.inr z1.symm), by rw [sl2]; exact bn⟩
  · rw [scn_app, t2, List.singleton_append, scn_cons, sz, scn_app, u2, List.cons_append, List.singleton_append, scn_cons, sg, scn_cons, sl, scn_app, v2, scn_one, sl2]
theorem try_exs {m : md_S} {W Q w q l0 la l1 : Nat} {e0 e1 : List EN} {key : Int32} (h1 : 1 ≤ w) (hq1 : 1 ≤ q) (hl : l1 < 2 ^ 31) (a1 : l0 + 2 ≤ la) (a2 : la ≤ l1) (E0 : EXS m W Q w (q - 1) (l0 + 2) la e0) (E1 : EXS m W Q w q la l1 e1) : EXS m W Q w q l0 l1 ([(19, nI l0, 0)] ++ (e0 ++ ([(20, 0, 0), (17, nI (l0 + 1), 0), (100, nI l0, 0), (3, key, 0)] ++ (e1 ++ [(100, nI (l0 + 1), 0)])))) := by
  intro s hv hq
  have vn := vls_n s
  have vm := vls_m (nI l0) s
  have vnm := vls_n (some (nI l0) :: s)
  have bs : bnd W Q s := ⟨by omega, by omega⟩
  have bn : bnd W Q (none :: s) := ⟨by omega, by omega⟩
  have bnm : bnd W Q (none :: some (nI l0) :: s) := ⟨by omega, by omega⟩
  obtain ⟨A0, hA0⟩ := E0 (some (nI l0) :: s) (by omega) (by omega)
  obtain ⟨A1, hA1⟩ := E1 s hv hq
  obtain ⟨B2, hB2⟩ := LA.glue (l0 := l0 + 2) hl a1 a2 A0 A1
  obtain ⟨B3, hB3⟩ := LA.glue (l0 := l0 + 1) (la := l0 + 2) hl (by omega) (by omega) (fun _ => none :: s) B2
  obtain ⟨B4, hB4⟩ := LA.glue (l0 := l0) (la := l0 + 1) hl (by omega) (by omega) (fun _ => none :: s) B3
  refine ⟨B4, fun Λ hΛ => ?_⟩
  obtain ⟨c1, d1⟩ := hB4 Λ hΛ
  obtain ⟨c2, d2⟩ := hB3 Λ d1
  obtain ⟨c3, c4⟩ := hB2 Λ d2
  have z0 : Λ (nI l0) = none :: s := c1 l0 (Nat.le_refl _) (by omega)
  have z1 : Λ (nI (l0 + 1)) = none :: s := c2 (l0 + 1) (Nat.le_refl _) (by omega)
  obtain ⟨t1, t2⟩ := hA0 Λ c3
  obtain ⟨v1, v2⟩ := hA1 Λ c4
  have sz : stp m Λ (s, false) (19, nI l0, 0) = (some (nI l0) :: s, false) := rfl
  have oz : oke m Λ (s, false) (19, nI l0, 0) := ⟨fun y => absurd y (show ¬ (19 : Int32) = 100 by decide), fun _ => rfl, fun y => absurd y (show ¬ (19 : Int32) = 17 by decide), fun y => absurd y (show ¬ (19 : Int32) = 18 by decide), fun _ => z0, fun y => absurd y (show ¬ (19 : Int32) = 20 by decide), fun _ _ => ⟨s, rfl⟩⟩
  have st : stp m Λ (none :: some (nI l0) :: s, false) (20, 0, 0) = (none :: s, false) := rfl
  have ot : oke m Λ (none :: some (nI l0) :: s, false) (20, 0, 0) := ⟨fun y => absurd y (show ¬ (20 : Int32) = 100 by decide), fun _ => rfl, fun y => absurd y (show ¬ (20 : Int32) = 17 by decide), fun y => absurd y (show ¬ (20 : Int32) = 18 by decide), fun y => absurd y (show ¬ (20 : Int32) = 19 by decide), fun _ => ⟨nI l0, s, rfl⟩, fun _ y => absurd rfl y⟩
  have sg : stp m Λ (none :: s, false) (17, nI (l0 + 1), 0) = (none :: s, true) := rfl
  have og : oke m Λ (none :: s, false) (17, nI (l0 + 1), 0) := ⟨fun y => absurd y (show ¬ (17 : Int32) = 100 by decide), fun _ => rfl, fun _ => z1, fun y => absurd y (show ¬ (17 : Int32) = 18 by decide), fun y => absurd y (show ¬ (17 : Int32) = 19 by decide), fun y => absurd y (show ¬ (17 : Int32) = 20 by decide), fun _ _ => ⟨none :: s, rfl⟩⟩
  have lab : ∀ (st : SS2) (l : Int32), (st.2 = true ∨ st.1 = Λ l) → oke m Λ st (100, l, 0) := fun st l h => ⟨fun _ => h, fun y => absurd rfl y, fun y => absurd y (show ¬ (100 : Int32) = 17 by decide), fun y => absurd y (show ¬ (100 : Int32) = 18 by decide), fun y => absurd y (show ¬ (100 : Int32) = 19 by decide), fun y => absurd y (show ¬ (100 : Int32) = 20 by decide), fun y => absurd rfl y⟩
  have sl : stp m Λ (none :: s, true) (100, nI l0, 0) = (none :: s, false) := by
    show (Λ (nI l0), false) = _
    rw [z0]
  have sl2 : stp m Λ (none :: s, false) (100, nI (l0 + 1), 0) = (none :: s, false) := by
    show (Λ (nI (l0 + 1)), false) = _
    rw [z1]
  have p := stp_p (m := m) (e := (3, key, 0)) (Λ := Λ) (s := s) (Or.inl rfl)
  refine ⟨⟨bs, oz, ?_⟩, ?_⟩
  · rw [sz]
    refine t1.app ?_
    rw [t2]
    refine ⟨bnm, ot, ?_⟩
    rw [st]
    refine ⟨bn, og, ?_⟩
    rw [sg]
    refine ⟨bn, lab _ _ (Or.inl rfl), ?_⟩
    rw [sl]
    refine ⟨bn, p.2, ?_⟩
    rw [p.1]
    refine v1.app ?_
    rw [v2]
    exact ⟨bn, lab _ _ (Or.inr z1.symm), by rw [sl2]; exact bn⟩
  · rw [List.singleton_append, scn_cons, sz, scn_app, t2, List.cons_append, scn_cons, st, List.cons_append, scn_cons, sg, List.cons_append, scn_cons, sl, List.singleton_append, scn_cons, p.1, scn_app, v2, scn_one, sl2]
theorem GL.rwl {m : md_S} {W Q w q : Nat} {G : Nat → Nat → Nat → List EN → List Nat → Prop} : ∀ {ch : List Nat} {l0 l1 : Nat} {ess : List (List EN)} {ns : List Nat}, GL G ch l0 l1 ess ns → (∀ (k x a b : Nat) (e : List EN) (nx : List Nat), ch[k]? = some x → G x a b e nx → a ≤ b ∧ EXS m W Q w q a b e) → RWL m W Q w q l0 l1 ess
  | [], l0, l1, ess, ns, ⟨h1, h2, _⟩, _ => by rw [h2]; show l0 ≤ l1; omega
  | x :: xs, l0, l1, ess, ns, ⟨la, es, rest, n1, n2, h1, h2, h3, h4⟩, hG => by
      obtain ⟨g1, g2⟩ := hG 0 x l0 la es n1 rfl h1
      rw [h3]
      exact ⟨la, g1, g2, GL.rwl h2 (fun k y a b e nx hy hg => hG (k + 1) y a b e nx (by rw [List.getElem?_cons_succ]; exact hy) hg)⟩
theorem Gen.exs {m : md_S} {u W Q : Nat} : ∀ {f : Nat} {i l0 l1 : Nat} {es : List EN} {ns : List Nat}, Gen m u f i l0 l1 es ns → l1 < 2 ^ 31 → ∀ {g w q : Nat}, GW m g i w q → EXS m W Q w q l0 l1 es
  | 0, _, _, _, _, _, h, _, _, _, _, _ => h.elim
  | f + 1, i, l0, l1, es, ns, ⟨h1, h2, ch, ess, n1, h3, h4, h5, h6, h7⟩, hl, g, w, q, hg => by
      cases g with
      | zero => exact hg.elim
      | succ g =>
      obtain ⟨w1, ch2, c2, u2, k2⟩ := hg
      obtain rfl : ch = ch2 := h3.1.det c2.1
      have hwf : WFN m i ess.length := by rw [h4.len]; exact h7
      have hkj := hwf.kj
      rw [h4.len] at hkj
      obtain ⟨hmono, hbd⟩ := GL.bd (fun h => (Gen.lbl h).1) h4
      have kid : ∀ (k x a b : Nat) (e : List EN) (nx : List Nat), ch[k]? = some x → Gen m u f x a b e nx → b ≤ l1 → ∃ w' q', EXS m W Q w' q' a b e ∧ w' + pnd (mA m 66 i) k ≤ w ∧ q' + tmk (mA m 66 i) k ≤ q := fun k x a b e nx hx hG hb => by
        obtain ⟨w', q', x1, x2, x3⟩ := k2 k x hx
        exact ⟨w', q', Gen.exs hG (by omega) x1, x2, x3⟩
      by_cases h40 : mA m 66 i = 40
      · have pn : ∀ k, pnd (mA m 66 i) k = 0 := fun k => by unfold pnd; rw [if_pos (Or.inl h40)]
        have hlb : lb (mA m 66 i) = 0 := by rw [h40]; rfl
        rw [hlb] at h4
        obtain ⟨x0, x1, rfl⟩ := lnn2 (hkj.1 h40)
        obtain ⟨la, e0, rest, m1, m2, g0, ⟨lb', e1, rest2, m3, m4, g1, ⟨z1, z2, z3⟩, z4, z5⟩, z6, z7⟩ := h4
        have b0 := (Gen.lbl g0).1
        have b1 := (Gen.lbl g1).1
        have hes : es = e0 ++ ([(3, kv m (aN m 68 i), 0)] ++ e1) := by
          rw [h5, z6, z4, z2]
          unfold cmb
          rw [if_pos h40]
          simp
        obtain ⟨w0, q0, E0, p0, r0⟩ := kid 0 x0 _ _ _ _ rfl g0 (by omega)
        obtain ⟨w9, q9, E1, p1, r1⟩ := kid 1 x1 _ _ _ _ rfl g1 (by omega)
        rw [pn] at p0 p1
        rw [← z1] at g1 E1
        intro s hv hq
        have vn := vls_n s
        obtain ⟨A, hA⟩ := E0 s (by omega) (by omega)
        obtain ⟨Z, hZ⟩ := E1 s (by omega) (by omega)
        obtain ⟨Λ0, h0⟩ := LA.glue (l0 := l0) hl (by omega) (by omega) A Z
        refine ⟨Λ0, fun Λ hΛ => ?_⟩
        obtain ⟨t1, t2⟩ := hA Λ (h0 Λ hΛ).1
        obtain ⟨v1, v2⟩ := hZ Λ (h0 Λ hΛ).2
        have p := stp_p (m := m) (e := (3, kv m (aN m 68 i), 0)) (Λ := Λ) (s := s) (Or.inl rfl)
        rw [hes]
        refine ⟨?_, by rw [scn_app, t2, List.singleton_append, scn_cons, p.1, v2]⟩
        refine t1.app ?_
        rw [t2]
        exact ⟨⟨by show vls (none :: s) ≤ W; omega, by show mks (none :: s) ≤ Q; omega⟩, p.2, by rw [p.1]; exact v1⟩
      by_cases h41 : mA m 66 i = 41
      · obtain ⟨x0, x1, x2, rfl⟩ := lnn3 (hkj.2.2.1 h41)
        have hlb : lb (mA m 66 i) = 2 := by rw [h41]; rfl
        rw [hlb] at h4
        obtain ⟨la, e0, rest, m1, m2, g0, ⟨lb', e1, rest2, m3, m4, g1, ⟨lc, e2, rest3, m5, m6, g2, ⟨z1, z2, z3⟩, y4, y5⟩, z4, z5⟩, z6, z7⟩ := h4
        have b0 := (Gen.lbl g0).1
        have b1 := (Gen.lbl g1).1
        have b2 := (Gen.lbl g2).1
        have hes : es = e0 ++ ([(18, nI l0, 0)] ++ (e1 ++ ([(17, nI (l0 + 1), 0), (100, nI l0, 0)] ++ (e2 ++ [(100, nI (l0 + 1), 0)])))) := by
          rw [h5, z6, z4, y4, z2]
          unfold cmb
          rw [if_neg h40, if_pos h41]
          simp
        have pn : ∀ k, pnd (mA m 66 i) k = 0 := fun k => by unfold pnd; rw [if_pos (Or.inr (Or.inl h41))]
        obtain ⟨w0, q0, E0, p0, r0⟩ := kid 0 x0 _ _ _ _ rfl g0 (by omega)
        obtain ⟨w9, q9, E1, p1, r1⟩ := kid 1 x1 _ _ _ _ rfl g1 (by omega)
        obtain ⟨w8, q8, E2, p2, r2⟩ := kid 2 x2 _ _ _ _ rfl g2 (by omega)
        rw [pn] at p0 p1 p2
        rw [← z1] at E2 b2
        rw [hes]
        exact if_exs w1 hl b0 b1 b2 (E0.le (by omega) (by omega)) (E1.le (by omega) (by omega)) (E2.le (by omega) (by omega))
      by_cases h19 : mA m 66 i = 19
      · obtain ⟨x0, x1, rfl⟩ := lnn2 (hkj.2.1 h19)
        have hlb : lb (mA m 66 i) = 2 := by rw [h19]; rfl
        rw [hlb] at h4
        obtain ⟨la, e0, rest, m1, m2, g0, ⟨lb', e1, rest2, m3, m4, g1, ⟨z1, z2, z3⟩, z4, z5⟩, z6, z7⟩ := h4
        have b0 := (Gen.lbl g0).1
        have b1 := (Gen.lbl g1).1
        have hes : es = [(19, nI l0, 0)] ++ (e0 ++ ([(20, 0, 0), (17, nI (l0 + 1), 0), (100, nI l0, 0), (3, kv m (aN m 68 i), 0)] ++ (e1 ++ [(100, nI (l0 + 1), 0)]))) := by
          rw [h5, z6, z4, z2]
          unfold cmb
          rw [if_neg h40, if_neg h41, if_pos h19]
          simp
        have pn : ∀ k, pnd (mA m 66 i) k = 0 := fun k => by unfold pnd; rw [if_pos (Or.inr (Or.inr (Or.inr h19)))]
        have tm : tmk (mA m 66 i) 0 = 1 := by unfold tmk; rw [if_pos ⟨h19, rfl⟩]
        obtain ⟨w0, q0, E0, p0, r0⟩ := kid 0 x0 _ _ _ _ rfl g0 (by omega)
        obtain ⟨w9, q9, E1, p1, r1⟩ := kid 1 x1 _ _ _ _ rfl g1 (by omega)
        rw [pn] at p0 p1
        rw [tm] at r0
        rw [← z1] at E1 b1
        rw [hes]
        exact try_exs w1 (by omega) hl b0 b1 (E0.le (by omega) (by omega)) (E1.le (by omega) (by omega))
      by_cases h42 : mA m 66 i = 42
      · have pn : ∀ k, pnd (mA m 66 i) k = 0 := fun k => by unfold pnd; rw [if_pos (Or.inr (Or.inr (Or.inl h42)))]
        have hlb : lb (mA m 66 i) = 0 := by rw [h42]; rfl
        have hes : es = rowE ess := by rw [h5]; unfold cmb; rw [if_neg h40, if_neg h41, if_neg h19, if_pos h42]
        have hr : RWL m W Q w q (l0 + lb (mA m 66 i)) l1 ess := GL.rwl (hbd (Nat.le_refl _)) (fun k x a b e nx hx hG => by
          obtain ⟨w', q', x1, x2, x3⟩ := kid k x a b e nx hx hG.1 hG.2
          rw [pn] at x2
          exact ⟨(Gen.lbl hG.1).1, x1.le (by omega) (by omega)⟩)
        rw [hlb] at hr
        cases ess with
        | nil =>
          exfalso
          unfold WFN at hwf
          rw [h42] at hwf
          simp (decide := true) at hwf
        | cons e0 r =>
          obtain ⟨la, r1, r2, r3⟩ := hr
          rw [hes]
          intro s hv hq
          obtain ⟨A, hA⟩ := r2 s hv hq
          obtain ⟨Z, hZ⟩ := row_exs r la l1 r3 hl s w1 hv hq
          obtain ⟨Λ0, h0⟩ := LA.glue (l0 := l0) hl r1 r3.le A Z
          refine ⟨Λ0, fun Λ hΛ => ?_⟩
          obtain ⟨t1, t2⟩ := hA Λ (h0 Λ hΛ).1
          obtain ⟨v1, v2⟩ := hZ Λ (h0 Λ hΛ).2
          exact ⟨t1.app (by rw [t2]; exact v1), by rw [show rowE (e0 :: r) = e0 ++ r.flatMap (fun x => ((16 : Int32), (0 : Int32), (0 : Int32)) :: x) from rfl, scn_app, t2, v2]⟩
      by_cases h2' : mA m 66 i = 2
      · have hes : es = [(2, kv m (aN m 68 i), 0)] := by rw [h5]; unfold cmb; rw [if_neg h40, if_neg h41, if_neg h19, if_neg h42, if_pos h2']
        rw [hes]
        intro s hv hq
        refine ⟨fun _ => [], fun Λ _ => ?_⟩
        exact get_exs (m := m) (W := W) (Q := Q) (Λ := Λ) [kv m (aN m 68 i)] s (by simp; omega) (by omega)
      obtain ⟨pp1, pp2, pp3⟩ := hwf.pps ⟨h40, h41, h19, h42, h2'⟩
      rw [h4.len] at pp1
      have pn : ∀ k, pnd (mA m 66 i) k = k := fun k => by
        unfold pnd
        rw [if_neg (fun y => by
          rcases y with y | y | y | y
          · exact h40 y
          · exact h41 y
          · exact h42 y
          · exact h19 y)]
      have hlb : lb (mA m 66 i) = 0 := by unfold lb; rw [if_neg h41, if_neg h19]
      have hklt : ∀ k, k < ch.length → k ≤ w := fun k hk => by
        obtain ⟨w', q', x1, x2, x3⟩ := k2 k ch[k] (List.getElem?_eq_getElem hk)
        rw [pn] at x2
        omega
      obtain ⟨-, hflat⟩ := GL.exs (m := m) (W := W) (Q := Q) (wq := fun k => (w - k, q)) (c0 := 0) (hbd (Nat.le_refl _)) hl (fun k x a b e nx hx hG => by
        obtain ⟨w', q', x1, x2, x3⟩ := kid k x a b e nx hx hG.1 hG.2
        rw [pn] at x2
        refine ⟨(Gen.lbl hG.1).1, x1.le ?_ ?_⟩
        · show w' ≤ w - (0 + k); omega
        · show q' ≤ q; omega)
      intro s hv hq
      obtain ⟨Λ0, h0⟩ := hflat s (fun k hk => by
        have := hklt k hk
        show vls s + k + (w - (0 + k)) ≤ W ∧ mks s + q ≤ Q
        omega) ⟨by show vls s ≤ W; omega, by show mks s ≤ Q; omega⟩
      refine ⟨Λ0, fun Λ hΛ => ?_⟩
      obtain ⟨t1, t2⟩ := h0 Λ (fun k k1 k2' => hΛ k (by omega) k2')
      have vr := vls_rep ch.length s
      have vn := vls_n s
      have hend : ∀ K : Nat, pops m (nE m i) = K + ch.length → bnd W Q (List.replicate (K + ch.length) none ++ s) → TYP m W Q Λ (List.replicate (K + ch.length) none ++ s, false) [nE m i] := fun K hK y => by
        have o := stp_o (m := m) (e := nE m i) (Λ := Λ) (s := s) (k := K + ch.length) pp2 hK pp3
        exact ⟨y, o.2, by rw [o.1]; exact ⟨by show vls (none :: s) ≤ W; omega, by show mks (none :: s) ≤ Q; omega⟩⟩
      by_cases h9 : mA m 66 i = 9 ∨ mA m 66 i = 10
      · rw [if_pos h9] at pp1
        have hu2 := u2 h9
        obtain ⟨l, l1', l2'⟩ := gts_map m (aN m 68 i)
        have h69 : mA m 69 i = 0 := (hkj.2.2.2.2.1 h9).1
        have hes : es = ess.flatten ++ (l.map (fun x => ((2 : Int32), x, (0 : Int32))) ++ [nE m i]) := by
          rw [h5]
          unfold cmb
          rw [if_neg h40, if_neg h41, if_neg h19, if_neg h42, if_neg h2', if_pos h9, l2', List.append_assoc]
          unfold nE
          rw [h69]
        obtain ⟨v1, v2⟩ := get_exs (m := m) (W := W) (Q := Q) (Λ := Λ) l (List.replicate ch.length none ++ s) (by omega) (by omega)
        have e1 : List.replicate l.length (none : SH) ++ (List.replicate ch.length none ++ s) = List.replicate (aN m 44 (aN m 68 i) + ch.length) none ++ s := by rw [← List.append_assoc, List.replicate_append_replicate, l1']
        rw [e1] at v2
        have o := stp_o (m := m) (e := nE m i) (Λ := Λ) (s := s) (k := aN m 44 (aN m 68 i) + ch.length) pp2 pp1 pp3
        have vr2 := vls_rep (aN m 44 (aN m 68 i) + ch.length) s
        rw [hes]
        refine ⟨t1.app ?_, by rw [scn_app, t2, scn_app, v2, scn_one, o.1]⟩
        rw [t2]
        refine v1.app ?_
        rw [v2]
        exact hend _ pp1 ⟨by omega, by omega⟩
      · rw [if_neg h9] at pp1
        have hes : es = ess.flatten ++ [nE m i] := by
          rw [h5]
          unfold cmb
          rw [if_neg h40, if_neg h41, if_neg h19, if_neg h42, if_neg h2', if_neg h9]
          rfl
        have o := stp_o (m := m) (e := nE m i) (Λ := Λ) (s := s) (k := 0 + ch.length) pp2 pp1 pp3
        rw [hes]
        have hb : bnd W Q (List.replicate ch.length none ++ s) := by
          have := t1.end_
          rw [t2] at this
          exact this
        refine ⟨t1.app ?_, ?_⟩
        · rw [t2]
          have := hend 0 pp1 (by rw [Nat.zero_add]; exact hb)
          rw [Nat.zero_add] at this
          exact this
        · rw [scn_app, t2, scn_one]
          have := o.1
          rw [Nat.zero_add] at this
          exact this
