/-! where jumps lead is ahead, and where tries lead -/
def NM (w : List SH) : Prop := ∀ x, x ∈ w → x = none
theorem NM.rep (k : Nat) : NM (List.replicate k none) := fun _ h => List.eq_of_mem_replicate h
theorem NM.nil : NM [] := fun _ h => absurd h (by simp)
theorem NM.one : NM [none] := NM.rep 1
theorem NM.no {w y z : List SH} {l : Int32} (h : NM w) (e : w = y ++ some l :: z) : False := by
  have := h (some l) (by rw [e]; simp)
  exact absurd this (by simp)
def AHB (m : md_S) (Λ : Int32 → List SH) (s w : List SH) (es : List EN) : Prop := ∀ a b s', es = a ++ b → scn m Λ (w ++ s, false) a = (s', false) → ∃ x, s' = x ++ s ∧ ∀ y l z, x = y ++ some l :: z → l ∈ lbs b ∧ Λ l = none :: (z ++ s)
theorem AHB.nil {m : md_S} {Λ : Int32 → List SH} {s w : List SH} (hw : NM w) : AHB m Λ s w [] := fun a b s' h1 h2 => by
  obtain ⟨rfl, -⟩ := List.append_eq_nil_iff.mp h1.symm
  have : (w ++ s, false) = (s', false) := h2
  injection this with this
  exact ⟨w, this.symm, fun y l z e => (hw.no e).elim⟩
theorem AHB.cons {m : md_S} {Λ : Int32 → List SH} {s w w' : List SH} {e : EN} {r : List EN} (hw : NM w) (h1 : stp m Λ (w ++ s, false) e = (w' ++ s, false)) (h2 : AHB m Λ s w' r) : AHB m Λ s w (e :: r) := fun a b s' e1 e2 => by
  cases a with
  | nil =>
    have : (w ++ s, false) = (s', false) := e2
    injection this with this
    exact ⟨w, this.symm, fun y l z e => (hw.no e).elim⟩
  | cons q a =>
    rw [List.cons_append] at e1
    injection e1 with e3 e4
    rw [← e3, scn_cons, h1] at e2
    exact h2 a b s' e4 e2
theorem AHB.go {m : md_S} {Λ : Int32 → List SH} {s w w' t : List SH} {e e' : EN} {r : List EN} (hw : NM w) (h1 : stp m Λ (w ++ s, false) e = (t, true)) (h1' : stp m Λ (t, true) e' = (w' ++ s, false)) (h2 : AHB m Λ s w' r) : AHB m Λ s w (e :: e' :: r) := fun a b s' e1 e2 => by
  cases a with
  | nil =>
    have : (w ++ s, false) = (s', false) := e2
    injection this with this
    exact ⟨w, this.symm, fun y l z e => (hw.no e).elim⟩
  | cons q a =>
    rw [List.cons_append] at e1
    injection e1 with e3 e4
    rw [← e3, scn_cons, h1] at e2
    cases a with
    | nil =>
      have : (t, true) = (s', false) := e2
      injection this with _ this
      exact absurd this (by decide)
    | cons q' a =>
      rw [List.cons_append] at e4
      injection e4 with e5 e6
      rw [← e5, scn_cons, h1'] at e2
      exact h2 a b s' e6 e2
theorem AHB.app {m : md_S} {Λ : Int32 → List SH} {s w w' : List SH} {a1 a2 : List EN} (h1 : AHB m Λ s w a1) (hs : scn m Λ (w ++ s, false) a1 = (w' ++ s, false)) (h2 : AHB m Λ s w' a2) : AHB m Λ s w (a1 ++ a2) := fun a b s' e1 e2 => by
  rcases List.append_eq_append_iff.mp e1 with ⟨a', x1, x2⟩ | ⟨c', x1, x2⟩
  · rw [x1, scn_app, hs] at e2
    exact h2 a' b s' x2 e2
  · obtain ⟨x, y1, y2⟩ := h1 a c' s' x1 e2
    refine ⟨x, y1, fun y l z e => ?_⟩
    obtain ⟨z1, z2⟩ := y2 y l z e
    exact ⟨by rw [x2, lbs_app]; exact List.mem_append_left _ z1, z2⟩
theorem AHB.up {m : md_S} {Λ : Int32 → List SH} {s w : List SH} {es : List EN} (h : AHB m Λ (w ++ s) [] es) (hw : NM w) : AHB m Λ s w es := fun a b s' e1 e2 => by
  obtain ⟨x, y1, y2⟩ := h a b s' e1 e2
  refine ⟨x ++ w, by rw [y1, List.append_assoc], fun y l z e => ?_⟩
  rcases List.append_eq_append_iff.mp e with ⟨a', x1, x2⟩ | ⟨c', x1, x2⟩
  · exact (hw.no x2).elim
  · cases c' with
    | nil =>
      rw [List.nil_append] at x2
      exact (hw.no (y := []) x2.symm).elim
    | cons q c' =>
      rw [List.cons_append] at x2
      injection x2 with x3 x4
      rw [← x3] at x1
      obtain ⟨z1, z2⟩ := y2 y l c' x1
      exact ⟨z1, by rw [z2, x4, List.append_assoc]⟩
theorem AHB.tr {m : md_S} {Λ : Int32 → List SH} {s : List SH} {l0 : Int32} {e0 rest : List EN} (h0 : AHB m Λ (some l0 :: s) [] e0) (hs : scn m Λ (some l0 :: s, false) e0 = (none :: some l0 :: s, false)) (hΛ : Λ l0 = none :: s) (hl : l0 ∈ lbs rest) (h2 : AHB m Λ s [none] rest) : AHB m Λ s [] ((19, l0, 0) :: (e0 ++ ((20, 0, 0) :: rest))) := fun a b s' e1 e2 => by
  cases a with
  | nil =>
    have : (s, false) = (s', false) := e2
    injection this with this
    exact ⟨[], this.symm, fun y l z e => absurd e (by simp)⟩
  | cons q a =>
    rw [List.cons_append] at e1
    injection e1 with e3 e4
    rw [← e3, scn_cons] at e2
    have e2 : scn m Λ (some l0 :: s, false) a = (s', false) := e2
    -- a mark below x
    have low : ∀ (x : List SH) (b : List EN), (∀ y l z, x = y ++ some l :: z → l ∈ lbs b ∧ Λ l = none :: (z ++ (some l0 :: s))) → l0 ∈ lbs b → ∃ x', x ++ (some l0 :: s) = x' ++ s ∧ ∀ y l z, x' = y ++ some l :: z → l ∈ lbs b ∧ Λ l = none :: (z ++ s) := fun x b hx hb => by
      refine ⟨x ++ [some l0], by simp, fun y l z e => ?_⟩
      rcases List.append_eq_append_iff.mp e with ⟨a', x1, x2⟩ | ⟨c', x1, x2⟩
      · cases a' with
        | nil =>
          rw [List.nil_append] at x2
          injection x2 with x3 x4
          injection x3 with x3
          rw [← x3, ← x4]
          exact ⟨hb, hΛ⟩
        | cons q a' =>
          rw [List.cons_append] at x2
          injection x2 with x3 x4
          exact absurd x4.symm (by simp)
      · cases c' with
        | nil =>
          rw [List.nil_append] at x2
          injection x2 with x3 x4
          injection x3 with x3
          rw [x3, x4]
          exact ⟨hb, hΛ⟩
        | cons q c' =>
          rw [List.cons_append] at x2
          injection x2 with x3 x4
          rw [← x3] at x1
          obtain ⟨z1, z2⟩ := hx y l c' x1
          refine ⟨z1, ?_⟩
          rw [z2, x4, List.append_assoc]
          rfl
    rcases List.append_eq_append_iff.mp e4 with ⟨a', x1, x2⟩ | ⟨c', x1, x2⟩
    · rw [x1, scn_app, hs] at e2
      cases a' with
      | nil =>
        have : (none :: some l0 :: s, false) = (s', false) := e2
        injection this with this
        rw [List.nil_append] at x2
        rw [← this]
        exact low [none] b (fun y l z e => (NM.one.no e).elim) (by rw [← x2, lbs_n (by decide)]; exact hl)
      | cons q a' =>
        rw [List.cons_append] at x2
        injection x2 with x3 x4
        rw [← x3, scn_cons] at e2
        exact h2 a' b s' x4 e2
    · obtain ⟨x, y1, y2⟩ := h0 a c' s' x1 e2
      rw [y1]
      refine low x b (fun y l z e => ?_) ?_
      · obtain ⟨z1, z2⟩ := y2 y l z e
        exact ⟨by rw [x2, lbs_app]; exact List.mem_append_left _ z1, z2⟩
      · rw [x2, lbs_app, lbs_n (by decide)]
        exact List.mem_append_right _ hl
/-- an ordinary last entry -/
theorem AHB.op {m : md_S} {Λ : Int32 → List SH} {s w : List SH} {e : EN} (hw : NM w) (h1 : stp m Λ (w ++ s, false) e = (none :: s, false)) : AHB m Λ s w [e] := AHB.cons (w' := [none]) hw h1 (AHB.nil NM.one)
/-- what the script of an expression does, where it is typed -/
def AHE (m : md_S) (W Q : Nat) (Λ : Int32 → List SH) (es : List EN) : Prop := ∀ s, TYP m W Q Λ (s, false) es → scn m Λ (s, false) es = (none :: s, false) ∧ AHB m Λ s [] es
theorem GL.ahe {m : md_S} {W Q : Nat} {Λ : Int32 → List SH} {G : Nat → Nat → Nat → List EN → List Nat → Prop} : ∀ {ch : List Nat} {l0 l1 : Nat} {ess : List (List EN)} {ns : List Nat}, GL G ch l0 l1 ess ns → (∀ (x a b : Nat) (e : List EN) (nx : List Nat), G x a b e nx → AHE m W Q Λ e) → ∀ (k : Nat) (s : List SH), TYP m W Q Λ (List.replicate k none ++ s, false) ess.flatten → scn m Λ (List.replicate k none ++ s, false) ess.flatten = (List.replicate (k + ch.length) none ++ s, false) ∧ AHB m Λ s (List.replicate k none) ess.flatten
  | [], l0, l1, ess, ns, ⟨h1, h2, _⟩, _, k, s, _ => by
      rw [h2]
      exact ⟨rfl, AHB.nil (NM.rep k)⟩
  | x :: xs, l0, l1, ess, ns, ⟨la, es, rest, n1, n2, h1, h2, h3, h4⟩, hG, k, s, ht => by
      rw [h3, List.flatten_cons] at ht ⊢
      obtain ⟨t1, t2⟩ := ht.sp
      obtain ⟨u1, u2⟩ := hG x l0 la es n1 h1 _ t1
      have e1 : (none :: (List.replicate k none ++ s), false) = (List.replicate (k + 1) none ++ s, false) := rfl
      rw [e1] at u1
      rw [u1] at t2
      obtain ⟨v1, v2⟩ := GL.ahe h2 hG (k + 1) s t2
      refine ⟨?_, (u2.up (NM.rep k)).app u1 v2⟩
      rw [scn_app, u1, v1, List.length_cons, show k + 1 + xs.length = k + (xs.length + 1) by omega]
theorem row_ahe {m : md_S} {W Q : Nat} {Λ : Int32 → List SH} : ∀ (r : List (List EN)), (∀ e, e ∈ r → AHE m W Q Λ e) → ∀ s, TYP m W Q Λ (none :: s, false) (r.flatMap (fun x => ((16 : Int32), (0 : Int32), (0 : Int32)) :: x)) → scn m Λ (none :: s, false) (r.flatMap (fun x => ((16 : Int32), (0 : Int32), (0 : Int32)) :: x)) = (none :: s, false) ∧ AHB m Λ s [none] (r.flatMap (fun x => ((16 : Int32), (0 : Int32), (0 : Int32)) :: x))
  | [], _, s, _ => ⟨rfl, AHB.nil NM.one⟩
  | e :: r, hr, s, ht => by
      rw [List.flatMap_cons, List.cons_append] at ht ⊢
      have p := stp_p (m := m) (e := (16, 0, 0)) (Λ := Λ) (s := s) (Or.inr rfl)
      have t2 := ht.2.2
      rw [p.1] at t2
      obtain ⟨t3, t4⟩ := t2.sp
      obtain ⟨u1, u2⟩ := hr e (by simp) s t3
      rw [u1] at t4
      obtain ⟨v1, v2⟩ := row_ahe r (fun x hx => hr x (by simp [hx])) s t4
      refine ⟨by rw [scn_cons, p.1, scn_app, u1, v1], AHB.cons (w' := []) NM.one p.1 (u2.app (w' := [none]) u1 v2)⟩
theorem get_ahe {m : md_S} {Λ : Int32 → List SH} : ∀ (l : List Int32) (k : Nat) (s : List SH), scn m Λ (List.replicate k none ++ s, false) (l.map (fun x => ((2 : Int32), x, (0 : Int32)))) = (List.replicate (k + l.length) none ++ s, false) ∧ AHB m Λ s (List.replicate k none) (l.map (fun x => ((2 : Int32), x, (0 : Int32))))
  | [], k, s => ⟨rfl, AHB.nil (NM.rep k)⟩
  | x :: l, k, s => by
      obtain ⟨u1, u2⟩ := get_ahe (m := m) (Λ := Λ) l (k + 1) s
      have o := (stp_o (m := m) (e := (2, x, 0)) (Λ := Λ) (s := List.replicate k none ++ s) (k := 0) (show (2 : Int32) ≠ 100 ∧ (2 : Int32) ≠ 17 ∧ (2 : Int32) ≠ 18 ∧ (2 : Int32) ≠ 19 ∧ (2 : Int32) ≠ 20 from by decide) rfl (show (2 : Int32) ∉ pshL from by decide)).1
      have o' : stp m Λ (List.replicate k none ++ s, false) (2, x, 0) = (List.replicate (k + 1) none ++ s, false) := o
      rw [List.map_cons]
      refine ⟨by rw [scn_cons, o', u1, List.length_cons, show k + 1 + l.length = k + (l.length + 1) by omega], AHB.cons (NM.rep k) o' u2⟩
theorem GL.of_mem {G : Nat → Nat → Nat → List EN → List Nat → Prop} : ∀ {ch : List Nat} {l0 l1 : Nat} {ess : List (List EN)} {ns : List Nat}, GL G ch l0 l1 ess ns → ∀ e, e ∈ ess → ∃ x a b nx, G x a b e nx
  | [], _, _, ess, _, ⟨_, h2, _⟩, e, he => by rw [h2] at he; exact absurd he (by simp)
  | x :: xs, l0, l1, ess, ns, ⟨la, es, rest, n1, n2, h1, h2, h3, h4⟩, e, he => by
      rw [h3] at he
      rcases List.mem_cons.mp he with q | q
      · rw [q]
        exact ⟨x, l0, la, n1, h1⟩
      · exact GL.of_mem h2 e q
theorem Gen.ahe {m : md_S} {u W Q : Nat} {Λ : Int32 → List SH} : ∀ {f : Nat} {i l0 l1 : Nat} {es : List EN} {ns : List Nat}, Gen m u f i l0 l1 es ns → AHE m W Q Λ es
  | 0, _, _, _, _, _, h => h.elim
  | f + 1, i, l0, l1, es, ns, ⟨h1, h2, ch, ess, n1, h3, h4, h5, h6, h7⟩ => by
      have hwf : WFN m i ess.length := by rw [h4.len]; exact h7
      have hkj := hwf.kj
      rw [h4.len] at hkj
      have kid : ∀ (x a b : Nat) (e : List EN) (nx : List Nat), Gen m u f x a b e nx → AHE m W Q Λ e := fun x a b e nx h => Gen.ahe h
      by_cases h40 : mA m 66 i = 40
      · obtain ⟨x0, x1, rfl⟩ := lnn2 (hkj.1 h40)
        obtain ⟨la, e0, rest, m1, m2, g0, ⟨lb', e1, rest2, m3, m4, g1, ⟨z1, z2, z3⟩, z4, z5⟩, z6, z7⟩ := h4
        have hes : es = e0 ++ ((3, kv m (aN m 68 i), 0) :: e1) := by
          rw [h5, z6, z4, z2]
          unfold cmb
          rw [if_pos h40]
          simp
        rw [hes]
        intro s ht
        obtain ⟨t1, t2⟩ := ht.sp
        obtain ⟨u1, u2⟩ := kid _ _ _ _ _ g0 s t1
        rw [u1] at t2
        have p := stp_p (m := m) (e := (3, kv m (aN m 68 i), 0)) (Λ := Λ) (s := s) (Or.inl rfl)
        have t3 := t2.2.2
        rw [p.1] at t3
        obtain ⟨v1, v2⟩ := kid _ _ _ _ _ g1 s t3
        exact ⟨by rw [scn_app, u1, scn_cons, p.1, v1], u2.app (w' := [none]) u1 (AHB.cons (w' := []) NM.one p.1 v2)⟩
      by_cases h41 : mA m 66 i = 41
      · obtain ⟨x0, x1, x2, rfl⟩ := lnn3 (hkj.2.2.1 h41)
        obtain ⟨la, e0, rest, m1, m2, g0, ⟨lb', e1, rest2, m3, m4, g1, ⟨lc, e2, rest3, m5, m6, g2, ⟨z1, z2, z3⟩, y4, y5⟩, z4, z5⟩, z6, z7⟩ := h4
        have hes : es = e0 ++ ((18, nI l0, 0) :: (e1 ++ ((17, nI (l0 + 1), 0) :: (100, nI l0, 0) :: (e2 ++ [(100, nI (l0 + 1), 0)])))) := by
          rw [h5, z6, z4, y4, z2]
          unfold cmb
          rw [if_neg h40, if_pos h41]
          simp
        rw [hes]
        intro s ht
        obtain ⟨t1, t2⟩ := ht.sp
        obtain ⟨u1, u2⟩ := kid _ _ _ _ _ g0 s t1
        rw [u1] at t2
        have o18 := t2.2.1
        have z0 : Λ (nI l0) = s := o18.2.2.2.1 rfl
        have s18 : stp m Λ (none :: s, false) (18, nI l0, 0) = (s, false) := rfl
        have t3 := t2.2.2
        rw [s18] at t3
        obtain ⟨t4, t5⟩ := t3.sp
        obtain ⟨v1, v2⟩ := kid _ _ _ _ _ g1 s t4
        rw [v1] at t5
        have o17 := t5.2.1
        have z1' : Λ (nI (l0 + 1)) = none :: s := o17.2.2.1 rfl
        have s17 : stp m Λ (none :: s, false) (17, nI (l0 + 1), 0) = (none :: s, true) := rfl
        have s100 : stp m Λ (none :: s, true) (100, nI l0, 0) = (s, false) := by
          show (Λ (nI l0), false) = _
          rw [z0]
        have t6 := t5.2.2.2.2
        rw [s17, s100] at t6
        obtain ⟨t7, t8⟩ := t6.sp
        obtain ⟨w1, w2⟩ := kid _ _ _ _ _ g2 s t7
        have sl2 : stp m Λ (none :: s, false) (100, nI (l0 + 1), 0) = (none :: s, false) := by
          show (Λ (nI (l0 + 1)), false) = _
          rw [z1']
        refine ⟨by rw [scn_app, u1, scn_cons, s18, scn_app, v1, scn_cons, s17, scn_cons, s100, scn_app, w1, scn_one, sl2], ?_⟩
        exact u2.app (w' := [none]) u1 (AHB.cons (w' := []) NM.one s18 (v2.app (w' := [none]) v1 (AHB.go (w' := []) NM.one s17 s100 (w2.app (w' := [none]) w1 (AHB.op NM.one sl2)))))
      by_cases h19 : mA m 66 i = 19
      · obtain ⟨x0, x1, rfl⟩ := lnn2 (hkj.2.1 h19)
        obtain ⟨la, e0, rest, m1, m2, g0, ⟨lb', e1, rest2, m3, m4, g1, ⟨z1, z2, z3⟩, z4, z5⟩, z6, z7⟩ := h4
        have hes : es = (19, nI l0, 0) :: (e0 ++ ((20, 0, 0) :: ((17, nI (l0 + 1), 0) :: (100, nI l0, 0) :: ((3, kv m (aN m 68 i), 0) :: (e1 ++ [(100, nI (l0 + 1), 0)]))))) := by
          rw [h5, z6, z4, z2]
          unfold cmb
          rw [if_neg h40, if_neg h41, if_pos h19]
          simp
        rw [hes]
        intro s ht
        have o19 := ht.2.1
        have z0 : Λ (nI l0) = none :: s := o19.2.2.2.2.1 rfl
        have s19 : stp m Λ (s, false) (19, nI l0, 0) = (some (nI l0) :: s, false) := rfl
        have t1 := ht.2.2
        rw [s19] at t1
        obtain ⟨t2, t3⟩ := t1.sp
        obtain ⟨u1, u2⟩ := kid _ _ _ _ _ g0 _ t2
        rw [u1] at t3
        have s20 : stp m Λ (none :: some (nI l0) :: s, false) (20, 0, 0) = (none :: s, false) := rfl
        have t4 := t3.2.2
        rw [s20] at t4
        have z1' : Λ (nI (l0 + 1)) = none :: s := t4.2.1.2.2.1 rfl
        have s17 : stp m Λ (none :: s, false) (17, nI (l0 + 1), 0) = (none :: s, true) := rfl
        have s100 : stp m Λ (none :: s, true) (100, nI l0, 0) = (none :: s, false) := by
          show (Λ (nI l0), false) = _
          rw [z0]
        have p := stp_p (m := m) (e := (3, kv m (aN m 68 i), 0)) (Λ := Λ) (s := s) (Or.inl rfl)
        have t5 := t4.2.2.2.2.2.2
        rw [s17, s100, p.1] at t5
        obtain ⟨t6, t7⟩ := t5.sp
        obtain ⟨v1, v2⟩ := kid _ _ _ _ _ g1 s t6
        have sl2 : stp m Λ (none :: s, false) (100, nI (l0 + 1), 0) = (none :: s, false) := by
          show (Λ (nI (l0 + 1)), false) = _
          rw [z1']
        refine ⟨by rw [scn_cons, s19, scn_app, u1, scn_cons, s20, scn_cons, s17, scn_cons, s100, scn_cons, p.1, scn_app, v1, scn_one, sl2], ?_⟩
        refine AHB.tr u2 u1 z0 ?_ (AHB.go (w' := [none]) NM.one s17 s100 (AHB.cons (w' := []) NM.one p.1 (v2.app (w' := [none]) v1 (AHB.op NM.one sl2))))
        rw [lbs_n (by decide), lbs_lab]
        simp
      by_cases h42 : mA m 66 i = 42
      · have hes : es = rowE ess := by rw [h5]; unfold cmb; rw [if_neg h40, if_neg h41, if_neg h19, if_pos h42]
        have hall : ∀ e, e ∈ ess → AHE m W Q Λ e := fun e he => by
          obtain ⟨x, a, b, nx, hg⟩ := GL.of_mem h4 e he
          exact kid _ _ _ _ _ hg
        cases ess with
        | nil =>
          exfalso
          unfold WFN at hwf
          rw [h42] at hwf
          simp (decide := true) at hwf
        | cons e0 r =>
          rw [hes]
          intro s ht
          have ht : TYP m W Q Λ (s, false) (e0 ++ r.flatMap (fun x => ((16 : Int32), (0 : Int32), (0 : Int32)) :: x)) := ht
          obtain ⟨t1, t2⟩ := ht.sp
          obtain ⟨u1, u2⟩ := hall e0 (by simp) s t1
          rw [u1] at t2
          obtain ⟨v1, v2⟩ := row_ahe r (fun e he => hall e (by simp [he])) s t2
          show scn m Λ (s, false) (e0 ++ r.flatMap (fun x => ((16 : Int32), (0 : Int32), (0 : Int32)) :: x)) = _ ∧ AHB m Λ s [] (e0 ++ r.flatMap (fun x => ((16 : Int32), (0 : Int32), (0 : Int32)) :: x))
          exact ⟨by rw [scn_app, u1, v1], u2.app (w' := [none]) u1 v2⟩
      by_cases h2' : mA m 66 i = 2
      · have hes : es = [(2, kv m (aN m 68 i), 0)] := by rw [h5]; unfold cmb; rw [if_neg h40, if_neg h41, if_neg h19, if_neg h42, if_pos h2']
        rw [hes]
        intro s _
        exact get_ahe (m := m) (Λ := Λ) [kv m (aN m 68 i)] 0 s
      obtain ⟨pp1, pp2, pp3⟩ := hwf.pps ⟨h40, h41, h19, h42, h2'⟩
      rw [h4.len] at pp1
      by_cases h9 : mA m 66 i = 9 ∨ mA m 66 i = 10
      · rw [if_pos h9] at pp1
        obtain ⟨l, l1', l2'⟩ := gts_map m (aN m 68 i)
        have h69 : mA m 69 i = 0 := (hkj.2.2.2.2.1 h9).1
        have hes : es = ess.flatten ++ (l.map (fun x => ((2 : Int32), x, (0 : Int32))) ++ [nE m i]) := by
          rw [h5]
          unfold cmb
          rw [if_neg h40, if_neg h41, if_neg h19, if_neg h42, if_neg h2', if_pos h9, l2', List.append_assoc]
          unfold nE
          rw [h69]
        rw [hes]
        intro s ht
        obtain ⟨t1, t2⟩ := ht.sp
        obtain ⟨u1, u2⟩ := GL.ahe h4 kid 0 s t1
        have u1' : scn m Λ ([] ++ s, false) ess.flatten = (List.replicate ch.length none ++ s, false) := by rw [Nat.zero_add] at u1; exact u1
        obtain ⟨v1, v2⟩ := get_ahe (m := m) (Λ := Λ) l ch.length s
        rw [l1', Nat.add_comm] at v1
        have o := stp_o (m := m) (e := nE m i) (Λ := Λ) (s := s) (k := aN m 44 (aN m 68 i) + ch.length) pp2 pp1 pp3
        refine ⟨?_, AHB.app (w := []) u2 u1' (v2.app v1 (AHB.op (NM.rep _) o.1))⟩
        rw [scn_app]
        have u1'' : scn m Λ (s, false) ess.flatten = (List.replicate ch.length none ++ s, false) := u1'
        rw [u1'', scn_app, v1, scn_one, o.1]
      · rw [if_neg h9, Nat.zero_add] at pp1
        have hes : es = ess.flatten ++ [nE m i] := by
          rw [h5]
          unfold cmb
          rw [if_neg h40, if_neg h41, if_neg h19, if_neg h42, if_neg h2', if_neg h9]
          rfl
        rw [hes]
        intro s ht
        obtain ⟨t1, t2⟩ := ht.sp
        obtain ⟨u1, u2⟩ := GL.ahe h4 kid 0 s t1
        have u1' : scn m Λ ([] ++ s, false) ess.flatten = (List.replicate ch.length none ++ s, false) := by rw [Nat.zero_add] at u1; exact u1
        have o := stp_o (m := m) (e := nE m i) (Λ := Λ) (s := s) (k := ch.length) pp2 pp1 pp3
        refine ⟨?_, AHB.app (w := []) u2 u1' (AHB.op (NM.rep _) o.1)⟩
        rw [scn_app]
        have u1'' : scn m Λ (s, false) ess.flatten = (List.replicate ch.length none ++ s, false) := u1'
        rw [u1'', scn_one, o.1]
/-- jumps lead ahead -/
theorem nj2 : ¬ JM 2 := by unfold JM; decide
theorem nj3 : ¬ JM 3 := by unfold JM; decide
theorem nj16 : ¬ JM 16 := by unfold JM; decide
theorem nj20 : ¬ JM 20 := by unfold JM; decide
theorem nj100 : ¬ JM 100 := by unfold JM; decide
def FW (es : List EN) : Prop := ∀ a e b, es = a ++ e :: b → JM e.1 → e.2.1 ∈ lbs b
theorem FW.nil : FW [] := fun a e b h _ => absurd h.symm (by simp)
theorem FW.cons {e : EN} {r : List EN} (h1 : JM e.1 → e.2.1 ∈ lbs r) (h2 : FW r) : FW (e :: r) := fun a q b h hj => by
  cases a with
  | nil =>
    rw [List.nil_append] at h
    injection h with x1 x2
    rw [← x1] at hj ⊢
    rw [← x2]
    exact h1 hj
  | cons y a =>
    rw [List.cons_append] at h
    injection h with x1 x2
    exact h2 a q b x2 hj
theorem FW.no {e : EN} {r : List EN} (h1 : ¬ JM e.1) (h2 : FW r) : FW (e :: r) := FW.cons (fun h => absurd h h1) h2
theorem FW.app : ∀ {a b : List EN}, FW a → FW b → FW (a ++ b)
  | [], _, _, h2 => h2
  | e :: a, b, h1, h2 => by
      rw [List.cons_append]
      refine FW.cons (fun hj => ?_) (FW.app (a := a) (fun x q y h hj => h1 (e :: x) q y (by rw [h]; rfl) hj) h2)
      rw [lbs_app]
      exact List.mem_append_left _ (h1 [] e a rfl hj)
theorem FW.flat : ∀ {ess : List (List EN)}, (∀ e, e ∈ ess → FW e) → FW ess.flatten
  | [], _ => FW.nil
  | e :: r, h => by
      rw [List.flatten_cons]
      exact FW.app (h e (by simp)) (FW.flat (fun x hx => h x (by simp [hx])))
theorem FW.row : ∀ {r : List (List EN)}, (∀ e, e ∈ r → FW e) → FW (r.flatMap (fun x => ((16 : Int32), (0 : Int32), (0 : Int32)) :: x))
  | [], _ => FW.nil
  | e :: r, h => by
      rw [List.flatMap_cons]
      exact FW.app (FW.no nj16 (h e (by simp))) (FW.row (fun x hx => h x (by simp [hx])))
theorem FW.of_no : ∀ {es : List EN}, (∀ e, e ∈ es → ¬ JM e.1) → FW es
  | [], _ => FW.nil
  | e :: r, h => FW.no (h e (by simp)) (FW.of_no (fun x hx => h x (by simp [hx])))
theorem Gen.fw {m : md_S} {u : Nat} : ∀ {f : Nat} {i l0 l1 : Nat} {es : List EN} {ns : List Nat}, Gen m u f i l0 l1 es ns → FW es
  | 0, _, _, _, _, _, h => h.elim
  | f + 1, i, l0, l1, es, ns, ⟨h1, h2, ch, ess, n1, h3, h4, h5, h6, h7⟩ => by
      have hwf : WFN m i ess.length := by rw [h4.len]; exact h7
      have hkj := hwf.kj
      rw [h4.len] at hkj
      have kid : ∀ (x a b : Nat) (e : List EN) (nx : List Nat), Gen m u f x a b e nx → FW e := fun x a b e nx h => Gen.fw h
      have hall : ∀ e, e ∈ ess → FW e := fun e he => by
        obtain ⟨x, a, b, nx, hg⟩ := GL.of_mem h4 e he
        exact kid _ _ _ _ _ hg
      by_cases h40 : mA m 66 i = 40
      · obtain ⟨x0, x1, rfl⟩ := lnn2 (hkj.1 h40)
        obtain ⟨la, e0, rest, m1, m2, g0, ⟨lb', e1, rest2, m3, m4, g1, ⟨z1, z2, z3⟩, z4, z5⟩, z6, z7⟩ := h4
        have hes : es = e0 ++ ((3, kv m (aN m 68 i), 0) :: e1) := by
          rw [h5, z6, z4, z2]
          unfold cmb
          rw [if_pos h40]
          simp
        rw [hes]
        exact FW.app (kid _ _ _ _ _ g0) (FW.no nj3 (kid _ _ _ _ _ g1))
      by_cases h41 : mA m 66 i = 41
      · obtain ⟨x0, x1, x2, rfl⟩ := lnn3 (hkj.2.2.1 h41)
        obtain ⟨la, e0, rest, m1, m2, g0, ⟨lb', e1, rest2, m3, m4, g1, ⟨lc, e2, rest3, m5, m6, g2, ⟨z1, z2, z3⟩, y4, y5⟩, z4, z5⟩, z6, z7⟩ := h4
        have hes : es = e0 ++ ((18, nI l0, 0) :: (e1 ++ ((17, nI (l0 + 1), 0) :: (100, nI l0, 0) :: (e2 ++ [(100, nI (l0 + 1), 0)])))) := by
          rw [h5, z6, z4, y4, z2]
          unfold cmb
          rw [if_neg h40, if_pos h41]
          simp
        rw [hes]
        refine FW.app (kid _ _ _ _ _ g0) (FW.cons (fun _ => ?_) (FW.app (kid _ _ _ _ _ g1) (FW.cons (fun _ => ?_) (FW.no nj100 (FW.app (kid _ _ _ _ _ g2) (FW.no nj100 FW.nil))))))
        · rw [lbs_app, lbs_n (by decide), lbs_lab]
          simp
        · rw [lbs_lab, lbs_app, lbs_lab]
          simp
      by_cases h19 : mA m 66 i = 19
      · obtain ⟨x0, x1, rfl⟩ := lnn2 (hkj.2.1 h19)
        obtain ⟨la, e0, rest, m1, m2, g0, ⟨lb', e1, rest2, m3, m4, g1, ⟨z1, z2, z3⟩, z4, z5⟩, z6, z7⟩ := h4
        have hes : es = (19, nI l0, 0) :: (e0 ++ ((20, 0, 0) :: ((17, nI (l0 + 1), 0) :: (100, nI l0, 0) :: ((3, kv m (aN m 68 i), 0) :: (e1 ++ [(100, nI (l0 + 1), 0)]))))) := by
          rw [h5, z6, z4, z2]
          unfold cmb
          rw [if_neg h40, if_neg h41, if_pos h19]
          simp
        rw [hes]
        refine FW.cons (fun _ => ?_) (FW.app (kid _ _ _ _ _ g0) (FW.no nj20 (FW.cons (fun _ => ?_) (FW.no nj100 (FW.no nj3 (FW.app (kid _ _ _ _ _ g1) (FW.no nj100 FW.nil)))))))
        · rw [lbs_app, lbs_n (by decide), lbs_n (by decide), lbs_lab]
          simp
        · rw [lbs_lab, lbs_n (by decide), lbs_app, lbs_lab]
          simp
      by_cases h42 : mA m 66 i = 42
      · have hes : es = rowE ess := by rw [h5]; unfold cmb; rw [if_neg h40, if_neg h41, if_neg h19, if_pos h42]
        rw [hes]
        cases ess with
        | nil => exact FW.nil
        | cons e0 r => exact FW.app (hall e0 (by simp)) (FW.row (fun e he => hall e (by simp [he])))
      by_cases h2' : mA m 66 i = 2
      · have hes : es = [(2, kv m (aN m 68 i), 0)] := by rw [h5]; unfold cmb; rw [if_neg h40, if_neg h41, if_neg h19, if_neg h42, if_pos h2']
        rw [hes]
        exact FW.no nj2 FW.nil
      obtain ⟨pp1, pp2, pp3⟩ := hwf.pps ⟨h40, h41, h19, h42, h2'⟩
      have hnj : ¬ JM (nE m i).1 := fun q => by
        rcases q with q | q | q
        · exact pp2.2.1 q
        · exact pp2.2.2.1 q
        · exact pp2.2.2.2.1 q
      by_cases h9 : mA m 66 i = 9 ∨ mA m 66 i = 10
      · obtain ⟨l, l1', l2'⟩ := gts_map m (aN m 68 i)
        have h69 : mA m 69 i = 0 := (hkj.2.2.2.2.1 h9).1
        have hes : es = ess.flatten ++ (l.map (fun x => ((2 : Int32), x, (0 : Int32))) ++ [nE m i]) := by
          rw [h5]
          unfold cmb
          rw [if_neg h40, if_neg h41, if_neg h19, if_neg h42, if_neg h2', if_pos h9, l2', List.append_assoc]
          unfold nE
          rw [h69]
        rw [hes]
        refine FW.app (FW.flat hall) (FW.app (FW.of_no (fun e he => ?_)) (FW.no hnj FW.nil))
        obtain ⟨x, -, rfl⟩ := List.mem_map.mp he
        exact nj2
      · have hes : es = ess.flatten ++ [nE m i] := by
          rw [h5]
          unfold cmb
          rw [if_neg h40, if_neg h41, if_neg h19, if_neg h42, if_neg h2', if_neg h9]
          rfl
        rw [hes]
        exact FW.app (FW.flat hall) (FW.no hnj FW.nil)
