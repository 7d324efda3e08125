/-! what a tree of the model says of the class's script -/
/-- places of a unit before those of its lets -/
def ub (m : md_S) (u : Nat) : Nat := (if mA m 36 u = 0 then 1 else 0) + aN m 39 u
/-- place of a variable within its unit, and its key -/
def vI (m : md_S) (v : Nat) : Nat := (if mA m 54 v = 0 then 0 else ub m (aN m 51 v)) + aN m 53 v
def kv (m : md_S) (v : Nat) : Int32 := nI (aN m 51 v * 1024 + vI m v)
abbrev EN : Type := Int32 × Int32 × Int32
def fE (l : List EN) : List Int64 := l.flatMap (fun e => [e.1.toInt64, e.2.1.toInt64, e.2.2.toInt64])
theorem fE_nil : fE [] = [] := rfl
theorem fE_app (a b : List EN) : fE (a ++ b) = fE a ++ fE b := List.flatMap_append
theorem fE_one (x y z : Int32) : fE [(x, y, z)] = [x.toInt64, y.toInt64, z.toInt64] := rfl
/-- what is got for an inner unit -/
def gts (m : md_S) (q : Nat) : List EN := (List.range (aN m 44 q)).map (fun x => (2, kv m (aN m 45 (16 * q + x)), 0))
def rowE : List (List EN) → List EN
  | [] => []
  | e :: r => e ++ r.flatMap (fun x => ((16 : Int32), (0 : Int32), (0 : Int32)) :: x)
/-- the script of a node, of those of its children -/
def cmb (m : md_S) (i l0 : Nat) (ess : List (List EN)) : List EN :=
  if mA m 66 i = 40 then ess.getD 0 [] ++ [(3, kv m (aN m 68 i), 0)] ++ ess.getD 1 []
  else if mA m 66 i = 41 then ess.getD 0 [] ++ [(18, nI l0, 0)] ++ ess.getD 1 [] ++ [(17, nI (l0 + 1), 0), (100, nI l0, 0)] ++ ess.getD 2 [] ++ [(100, nI (l0 + 1), 0)]
  else if mA m 66 i = 19 then [(19, nI l0, 0)] ++ ess.getD 0 [] ++ [(20, 0, 0), (17, nI (l0 + 1), 0), (100, nI l0, 0), (3, kv m (aN m 68 i), 0)] ++ ess.getD 1 [] ++ [(100, nI (l0 + 1), 0)]
  else if mA m 66 i = 42 then rowE ess
  else if mA m 66 i = 2 then [(2, kv m (aN m 68 i), 0)]
  else if mA m 66 i = 9 ∨ mA m 66 i = 10 then ess.flatten ++ gts m (aN m 68 i) ++ [(mA m 66 i, mA m 68 i, 0)]
  else ess.flatten ++ [(mA m 66 i, mA m 68 i, mA m 69 i)]
def lb (k : Int32) : Nat := if k = 41 then 2 else if k = 19 then 2 else 0
/-- the unit that a node refers to, as a mark -/
def um (m : md_S) (i : Nat) : List Nat := if mA m 66 i = 9 ∨ mA m 66 i = 10 then [1000 + aN m 68 i] else []
/-- a unit under, privileged or limited -/
def SP (m : md_S) (a : Nat) : Prop := mA m 36 a = 2 ∨ mA m 36 a = 3 ∨ mA m 36 a = 4
/-- kinds, operands and numbers of children that occur -/
def WFN (m : md_S) (i j : Nat) : Prop :=
  (mA m 66 i = 0 ∧ j = 0 ∧ (∃ a, mA m 68 i = nI a ∧ a < mN m 58) ∧ mA m 69 i = 0) ∨
  ((mA m 66 i = 1 ∨ mA m 66 i = 27) ∧ j = 0 ∧ mA m 68 i = 0 ∧ mA m 69 i = 0) ∨
  (mA m 66 i = 2 ∧ j = 0 ∧ (∃ a, mA m 68 i = nI a ∧ a < mN m 50 ∧ aN m 67 i < mN m 35 ∧ OC m (aN m 67 i) a) ∧ mA m 69 i = 0) ∨
  (mA m 66 i = 4 ∧ j = 0 ∧ (∃ a, mA m 68 i = nI a ∧ a < 8 ∧ a < mN m 25) ∧ mA m 69 i = 0) ∨
  ((mA m 66 i = 5 ∧ j = 1 ∨ mA m 66 i = 6 ∧ j = 2) ∧ (∃ a, mA m 68 i = nI a ∧ a < mN m 60) ∧ mA m 69 i = 0) ∨
  (mA m 66 i = 7 ∧ (∃ a, mA m 68 i = nI a ∧ a < mN m 60) ∧ ∃ k, mA m 69 i = nI k ∧ k ≤ 3 ∧ j = k + 1) ∨
  (mA m 66 i = 8 ∧ mA m 69 i = 0 ∧ ∃ k, mA m 68 i = nI k ∧ k ≤ 3 ∧ j = k + 1) ∨
  ((mA m 66 i = 9 ∧ j = 0 ∨ mA m 66 i = 10 ∧ (j ≤ 1 ∧ (j = 1 ↔ mA m 36 (aN m 68 i) = 4))) ∧ mA m 69 i = 0 ∧ ∃ a, mA m 68 i = nI a ∧ (a < mN m 35 ∧ (mA m 66 i = 9 → mA m 36 a ≠ 4) ∧ (mA m 66 i = 10 → SP m a)) ∧ aN m 44 a ≤ 13 ∧ (∀ x, x < aN m 44 a → aN m 45 (16 * a + x) < mN m 50) ∧ aN m 67 i < mN m 35 ∧ ∀ x, x < aN m 44 a → OC m (aN m 67 i) (aN m 45 (16 * a + x))) ∨
  ((mA m 66 i = 11 ∨ mA m 66 i = 12 ∨ mA m 66 i = 13 ∨ mA m 66 i = 14 ∨ mA m 66 i = 15) ∧ j = 2 ∧ mA m 68 i = 0 ∧ mA m 69 i = 0) ∨
  ((mA m 66 i = 21 ∨ mA m 66 i = 22 ∨ mA m 66 i = 23 ∨ mA m 66 i = 24) ∧ j = 1 ∧ mA m 68 i = 0 ∧ mA m 69 i = 0) ∨
  ((mA m 66 i = 25 ∨ mA m 66 i = 26) ∧ (j ≤ 1 ∧ (j = 1 ↔ mA m 136 (aN m 68 i) = 1)) ∧ (∃ a, mA m 68 i = nI a ∧ a < mN m 48) ∧ mA m 69 i = 0) ∨
  ((mA m 66 i = 40 ∨ mA m 66 i = 19) ∧ j = 2 ∧ (∃ a, mA m 68 i = nI a ∧ a < mN m 50 ∧ aN m 51 a = aN m 67 i) ∧ mA m 69 i = 0) ∨
  (mA m 66 i = 41 ∧ j = 3 ∧ mA m 68 i = 0 ∧ mA m 69 i = 0) ∨
  (mA m 66 i = 42 ∧ 2 ≤ j ∧ mA m 68 i = 0 ∧ mA m 69 i = 0)
def GL (G : Nat → Nat → Nat → List EN → List Nat → Prop) : List Nat → Nat → Nat → List (List EN) → List Nat → Prop
  | [], l0, l1, ess, ns => l1 = l0 ∧ ess = [] ∧ ns = []
  | x :: xs, l0, l1, ess, ns => ∃ la es rest n1 n2, G x l0 la es n1 ∧ GL G xs la l1 rest n2 ∧ ess = es :: rest ∧ ns = n1 ++ n2
/-- node i of unit u makes es, with labels l0 to l1; ns: its nodes, and 1000 + the units begun -/
def Gen (m : md_S) (u : Nat) : Nat → Nat → Nat → Nat → List EN → List Nat → Prop
  | 0, _, _, _, _, _ => False
  | f + 1, i, l0, l1, es, ns => mA m 67 i = nI u ∧ i < 900 ∧ ∃ ch ess n1, CH m i ch ∧ GL (Gen m u f) ch (l0 + lb (mA m 66 i)) l1 ess n1 ∧ es = cmb m i l0 ess ∧ ns = i :: (um m i ++ n1) ∧ WFN m i ch.length
theorem GL.imp {G G' : Nat → Nat → Nat → List EN → List Nat → Prop} : ∀ {ch : List Nat} {l0 l1 : Nat} {ess : List (List EN)} {ns : List Nat}, GL G ch l0 l1 ess ns → (∀ x l0 l1 es n1, x ∈ ch → (∀ j, j ∈ n1 → j ∈ ns) → G x l0 l1 es n1 → G' x l0 l1 es n1) → GL G' ch l0 l1 ess ns
  | [], _, _, _, _, h, _ => h
  | x :: xs, l0, l1, ess, ns, ⟨la, es, rest, n1, n2, h1, h2, h3, h4⟩, hg => by
      refine ⟨la, es, rest, n1, n2, hg x l0 la es n1 (by simp) (fun j hj => by rw [h4]; simp [hj]) h1, GL.imp h2 (fun y a b e n hy hn => hg y a b e n (by simp [hy]) (fun j hj => by rw [h4]; simp [hn j hj])), h3, h4⟩
theorem Gen.up {m : md_S} {u : Nat} : ∀ {f : Nat} {i l0 l1 : Nat} {es : List EN} {ns : List Nat}, Gen m u f i l0 l1 es ns → Gen m u (f + 1) i l0 l1 es ns
  | 0, _, _, _, _, _, h => h.elim
  | f + 1, i, l0, l1, es, ns, ⟨h1, h2, ch, ess, n1, h3, h4, h5⟩ => ⟨h1, h2, ch, ess, n1, h3, h4.imp (fun _ _ _ _ _ _ _ h => Gen.up h), h5⟩
theorem Gen.le {m : md_S} {u f g : Nat} {i l0 l1 : Nat} {es : List EN} {ns : List Nat} (h : Gen m u f i l0 l1 es ns) (hg : f ≤ g) : Gen m u g i l0 l1 es ns := by
  obtain ⟨d, rfl⟩ := Nat.exists_eq_add_of_le hg
  induction d with
  | zero => exact h
  | succ d ih => exact (ih (by omega)).up
theorem Gen.root {m : md_S} {u f : Nat} {i l0 l1 : Nat} {es : List EN} {ns : List Nat} (h : Gen m u f i l0 l1 es ns) : i ∈ ns ∧ i < 900 ∧ mA m 67 i = nI u := by
  cases f with
  | zero => exact h.elim
  | succ f =>
    obtain ⟨h1, h2, ch, ess, n1, h3, h4, h5, h6, h7⟩ := h
    exact ⟨by rw [h6]; simp, h2, h1⟩
theorem GL.mem {m : md_S} {u f : Nat} : ∀ {ch : List Nat} {l0 l1 : Nat} {ess : List (List EN)} {ns : List Nat}, GL (Gen m u f) ch l0 l1 ess ns → ∀ x, x ∈ ch → x ∈ ns
  | [], _, _, _, _, _, x, hx => absurd hx (by simp)
  | y :: xs, l0, l1, ess, ns, ⟨la, es, rest, n1, n2, h1, h2, h3, h4⟩, x, hx => by
      rw [h4]
      rcases List.mem_cons.mp hx with rfl | hx
      · exact List.mem_append_left _ h1.root.1
      · exact List.mem_append_right _ (GL.mem h2 x hx)
theorem GL.len {G : Nat → Nat → Nat → List EN → List Nat → Prop} : ∀ {ch : List Nat} {l0 l1 : Nat} {ess : List (List EN)} {ns : List Nat}, GL G ch l0 l1 ess ns → ess.length = ch.length
  | [], _, _, _, _, ⟨_, h, _⟩ => by rw [h]; rfl
  | x :: xs, l0, l1, ess, ns, ⟨la, es, rest, n1, n2, h1, h2, h3, h4⟩ => by rw [h3, List.length_cons, List.length_cons, GL.len h2]
theorem GL.snoc {G : Nat → Nat → Nat → List EN → List Nat → Prop} : ∀ {ch : List Nat} {l0 l1 l2 x : Nat} {ess : List (List EN)} {es : List EN} {ns n1 : List Nat}, GL G ch l0 l1 ess ns → G x l1 l2 es n1 → GL G (ch ++ [x]) l0 l2 (ess ++ [es]) (ns ++ n1)
  | [], l0, l1, l2, x, ess, es, ns, n1, ⟨h1, h2, h3⟩, hx => by
      subst h1 h2 h3
      exact ⟨l2, es, [], n1, [], hx, ⟨rfl, rfl, rfl⟩, rfl, by simp⟩
  | y :: xs, l0, l1, l2, x, ess, es, ns, n1, ⟨la, e1, rest, m1, m2, g1, g2, g3, g4⟩, hx =>
      ⟨la, e1, rest ++ [es], m1, m2 ++ n1, g1, GL.snoc g2 hx, by rw [g3]; rfl, by rw [g4, List.append_assoc]⟩
/-- what units have captured stays, and whose a variable is -/
def CG (m m' : md_S) : Prop := (∀ u, u < mN m 35 → aN m 44 u ≤ aN m' 44 u ∧ ∀ x, x < aN m 44 u → aN m' 45 (16 * u + x) = aN m 45 (16 * u + x)) ∧ ∀ v, v < mN m 50 → aN m' 51 v = aN m 51 v
theorem CG.refl (m : md_S) : CG m m := ⟨fun _ _ => ⟨Nat.le_refl _, fun _ _ => rfl⟩, fun _ _ => rfl⟩
theorem CG.tr {m m' m2 : md_S} (h : CG m m') (h2 : CG m' m2) (h35 : mN m 35 ≤ mN m' 35) (h50 : mN m 50 ≤ mN m' 50) : CG m m2 :=
  ⟨fun u hu => by
    obtain ⟨a1, a2⟩ := h.1 u hu
    obtain ⟨b1, b2⟩ := h2.1 u (by omega)
    exact ⟨by omega, fun x hx => (b2 x (by omega)).trans (a2 x hx)⟩, fun v hv => (h2.2 v (by omega)).trans (h.2 v hv)⟩
theorem CG.fr {m m' : md_S} {L : List Nat} (h : md_fr L m m') (hL : ∀ x, x ∈ [44, 45, 51] → x ∉ L) : CG m m' :=
  ⟨fun u _ => ⟨by rw [aN, aN, md_frA h (hL 44 (by decide))]; exact Nat.le_refl _, fun x _ => by rw [aN, aN, md_frA h (hL 45 (by decide))]⟩, fun v _ => by rw [aN, aN, md_frA h (hL 51 (by decide))]⟩
theorem CG.vs {m m' : md_S} {L : List Nat} (h : md_fr L m m') (hL : ∀ x, x ∈ [44, 45] → x ∉ L) (hv : ∀ v, v < mN m 50 → mA m' 51 v = mA m 51 v) : CG m m' :=
  ⟨fun u _ => ⟨by rw [aN, aN, md_frA h (hL 44 (by decide))]; exact Nat.le_refl _, fun x _ => by rw [aN, aN, md_frA h (hL 45 (by decide))]⟩, fun v hv2 => by rw [aN, aN, hv v hv2]⟩
theorem PC.vs {m m' : md_S} {L : List Nat} (hp : PC m) (h : md_fr L m m') (hL : ∀ x, x ∈ [35, 36, 40, 44, 45] → x ∉ L) (hv : ∀ v, v < mN m 50 → mA m' 51 v = mA m 51 v) (hc : ∀ q, q < mN m 35 → ∀ x, x < aN m 44 q → aN m 45 (16 * q + x) < mN m 50) : PC m' := by
  intro q hq h0 x hx
  rw [mN_fr h (hL 35 (by decide))] at hq
  rw [md_frA h (hL 36 (by decide))] at h0
  rw [aN, md_frA h (hL 44 (by decide)), ← aN] at hx
  have e : aN m' 45 (16 * q + x) = aN m 45 (16 * q + x) := by rw [aN, aN, md_frA h (hL 45 (by decide))]
  have e2 : aN m' 40 q = aN m 40 q := by rw [aN, aN, md_frA h (hL 40 (by decide))]
  rw [e, e2]
  rcases hp q hq h0 x hx with a | ⟨y, y1, y2⟩
  · left
    rw [aN, hv _ (hc q hq x hx)]; exact a
  · exact Or.inr ⟨y, by rw [aN, md_frA h (hL 44 (by decide))]; exact y1, by rw [aN, md_frA h (hL 45 (by decide))]; exact y2⟩
theorem PC.srt {m m' : md_S} {L : List Nat} (hp : PC m) (h : md_fr L m m') (hL : ∀ x, x ∈ [35, 40, 44, 45, 51] → x ∉ L) (hv : ∀ q, mA m' 36 q ≠ 0 → mA m 36 q ≠ 0) : PC m' := by
  intro q hq h0 x hx
  rw [mN_fr h (hL 35 (by decide))] at hq
  have e : ∀ f, f ∈ [40, 44, 45, 51] → ∀ i, aN m' f i = aN m f i := fun f hf i => by rw [aN, aN, md_frA h (hL f (by revert hf; revert f; decide))]
  rw [e 44 (by decide)] at hx
  unfold OC
  simp only [e 44 (by decide), e 45 (by decide), e 40 (by decide), e 51 (by decide)]
  exact hp q hq (hv q h0) x hx
theorem OC.to {m m' : md_S} {u v : Nat} (h : OC m u v) (hg : CG m m') (hu : u < mN m 35) (hv : v < mN m 50) : OC m' u v := by
  rcases h with h | ⟨y, y1, y2⟩
  · exact Or.inl ((hg.2 v hv).trans h)
  · obtain ⟨a1, a2⟩ := hg.1 u hu
    exact Or.inr ⟨y, by omega, (a2 y y1).trans y2⟩
/-- sorts of units (under or not), and which askings have an index -/
def S36 (m m' : md_S) : Prop := (mN m 25 ≤ mN m' 25 ∧ ∀ u, u < mN m 35 → (mA m' 36 u = 4 ↔ mA m 36 u = 4) ∧ (SP m u → SP m' u)) ∧ ∀ a, a < mN m 48 → mA m' 136 a = mA m 136 a
theorem S36.refl (m : md_S) : S36 m m := ⟨⟨Nat.le_refl _, fun _ _ => ⟨Iff.rfl, id⟩⟩, fun _ _ => rfl⟩
theorem S36.tr {m m' m2 : md_S} (h : S36 m m') (h2 : S36 m' m2) (h35 : mN m 35 ≤ mN m' 35) (h48 : mN m 48 ≤ mN m' 48) : S36 m m2 :=
  ⟨⟨Nat.le_trans h.1.1 h2.1.1, fun u hu => ⟨(h2.1.2 u (by omega)).1.trans (h.1.2 u hu).1, fun y => (h2.1.2 u (by omega)).2 ((h.1.2 u hu).2 y)⟩⟩, fun a ha => (h2.2 a (by omega)).trans (h.2 a ha)⟩
theorem S36.fr {m m' : md_S} {L : List Nat} (h : md_fr L m m') (hL : ∀ x, x ∈ [25, 36, 136] → x ∉ L) : S36 m m' :=
  ⟨⟨by rw [mN_fr h (hL 25 (by decide))]; exact Nat.le_refl _, fun u _ => by unfold SP; rw [md_frA h (hL 36 (by decide))]; exact ⟨Iff.rfl, id⟩⟩, fun a _ => md_frA h (hL 136 (by decide)) a⟩
def KP (m m' : md_S) : Prop := (∀ v, v < mN m 50 → kv m' v = kv m v) ∧ mN m 58 ≤ mN m' 58 ∧ mN m 50 ≤ mN m' 50 ∧ mN m 60 ≤ mN m' 60 ∧ mN m 35 ≤ mN m' 35 ∧ mN m 48 ≤ mN m' 48 ∧ (∀ i, mA m' 30 i = mA m 30 i ∧ mA m' 31 i = mA m 31 i) ∧ CG m m' ∧ S36 m m'
theorem KP.refl (m : md_S) : KP m m := ⟨fun _ _ => rfl, Nat.le_refl _, Nat.le_refl _, Nat.le_refl _, Nat.le_refl _, Nat.le_refl _, fun _ => ⟨rfl, rfl⟩, CG.refl m, S36.refl m⟩
theorem KP.tr {m m' m2 : md_S} (h : KP m m') (h2 : KP m' m2) : KP m m2 :=
  ⟨fun v hv => (h2.1 v (Nat.lt_of_lt_of_le hv h.2.2.1)).trans (h.1 v hv), Nat.le_trans h.2.1 h2.2.1, Nat.le_trans h.2.2.1 h2.2.2.1, Nat.le_trans h.2.2.2.1 h2.2.2.2.1, Nat.le_trans h.2.2.2.2.1 h2.2.2.2.2.1, Nat.le_trans h.2.2.2.2.2.1 h2.2.2.2.2.2.1, fun i => ⟨(h2.2.2.2.2.2.2.1 i).1.trans (h.2.2.2.2.2.2.1 i).1, (h2.2.2.2.2.2.2.1 i).2.trans (h.2.2.2.2.2.2.1 i).2⟩, h.2.2.2.2.2.2.2.1.tr h2.2.2.2.2.2.2.2.1 h.2.2.2.2.1 h.2.2.1, h.2.2.2.2.2.2.2.2.tr h2.2.2.2.2.2.2.2.2 h.2.2.2.2.1 h.2.2.2.2.2.1⟩
theorem KP.fr {m m' : md_S} {L : List Nat} (h : md_fr L m m') (hL : ∀ x, x ∈ [25, 30, 31, 35, 36, 39, 44, 45, 48, 50, 51, 53, 54, 58, 60, 136] → x ∉ L) : KP m m' := by
  have e : ∀ k, k ∈ [35, 48, 50, 58, 60] → mN m' k = mN m k := fun k hk => mN_fr h (hL k (by revert hk; revert k; decide))
  refine ⟨fun v _ => ?_, by rw [e 58 (by decide)]; exact Nat.le_refl _, by rw [e 50 (by decide)]; exact Nat.le_refl _, by rw [e 60 (by decide)]; exact Nat.le_refl _, by rw [e 35 (by decide)]; exact Nat.le_refl _, by rw [e 48 (by decide)]; exact Nat.le_refl _, fun i => ⟨md_frA h (hL 30 (by decide)) i, md_frA h (hL 31 (by decide)) i⟩, CG.fr h (fun x hx => hL x (by revert hx; revert x; decide)), S36.fr h (fun x hx => hL x (by revert hx; revert x; decide))⟩
  unfold kv vI ub aN
  rw [md_frA h (hL 51 (by decide)), md_frA h (hL 53 (by decide)), md_frA h (hL 54 (by decide)), md_frA h (hL 36 (by decide)), md_frA h (hL 39 (by decide))]
theorem WFN.to {m m' : md_S} {i j : Nat} (h : WFN m i j) (hk : KP m m') (h66 : mA m' 66 i = mA m 66 i) (h67 : mA m' 67 i = mA m 67 i) (h68 : mA m' 68 i = mA m 68 i) (h69 : mA m' 69 i = mA m 69 i) (hu : mA m 66 i = 9 ∨ mA m 66 i = 10 → aN m' 44 (aN m 68 i) = aN m 44 (aN m 68 i) ∧ ∀ x, x < aN m 44 (aN m 68 i) → aN m' 45 (16 * aN m 68 i + x) = aN m 45 (16 * aN m 68 i + x)) (h35 : mN m 35 ≤ 60) : WFN m' i j := by
  obtain ⟨k1, k2, k3, k4, k5, k6, -, kg, ks⟩ := hk
  have a67 : aN m' 67 i = aN m 67 i := by rw [aN, aN, h67]
  have a68 : aN m' 68 i = aN m 68 i := by rw [aN, aN, h68]
  unfold WFN
  rw [h66, h68, h69, a67, a68]
  rcases h with ⟨a, b, ⟨c, d, e⟩, f⟩ | ⟨a, b, f⟩ | ⟨a, b, ⟨c, d, e, g7, go⟩, f⟩ | ⟨a, b, ⟨c, d, e⟩, f⟩ | ⟨a, ⟨c, d, e⟩, f⟩ | ⟨a, ⟨c, d, e⟩, f⟩ | ⟨a, b, f⟩ | ⟨a, b, c, d, e, f, g, g7, go⟩ | ⟨a, b, f⟩ | ⟨a, b, f⟩ | ⟨a, b, ⟨c, d, e⟩, f⟩ | ⟨a, b, ⟨c, d, e, go⟩, f⟩ | ⟨a, b, f⟩ | ⟨a, b, f⟩
  · exact Or.inl ⟨a, b, ⟨c, d, by omega⟩, f⟩
  · exact Or.inr (Or.inl ⟨a, b, f⟩)
  · exact Or.inr (Or.inr (Or.inl ⟨a, b, ⟨c, d, by omega, by omega, go.to kg g7 e⟩, f⟩))
  · exact Or.inr (Or.inr (Or.inr (Or.inl ⟨a, b, ⟨c, d, e.1, Nat.lt_of_lt_of_le e.2 ks.1.1⟩, f⟩)))
  · exact Or.inr (Or.inr (Or.inr (Or.inr (Or.inl ⟨a, ⟨c, d, by omega⟩, f⟩))))
  · exact Or.inr (Or.inr (Or.inr (Or.inr (Or.inr (Or.inl ⟨a, ⟨c, d, by omega⟩, f⟩)))))
  · exact Or.inr (Or.inr (Or.inr (Or.inr (Or.inr (Or.inr (Or.inl ⟨a, b, f⟩))))))
  · have hc : aN m 68 i = c := aN_of d (by omega)
    obtain ⟨u1, u2⟩ := hu (a.imp (fun y => y.1) (fun y => y.1))
    rw [hc] at u1 u2
    exact Or.inr (Or.inr (Or.inr (Or.inr (Or.inr (Or.inr (Or.inr (Or.inl ⟨a.imp (fun y => y) (fun y => ⟨y.1, y.2.1, y.2.2.trans (by rw [hc]; exact (ks.1.2 c e.1).1.symm)⟩), b, c, d, ⟨by omega, fun y z => e.2.1 y ((ks.1.2 c e.1).1.mp z), fun y => (ks.1.2 c e.1).2 (e.2.2 y)⟩, by omega, fun x hx => by rw [u2 x (by omega)]; exact Nat.lt_of_lt_of_le (g x (by omega)) k3, by omega, fun x hx => by rw [u2 x (by omega)]; exact (go x (by omega)).to kg g7 (g x (by omega))⟩)))))))
  · exact Or.inr (Or.inr (Or.inr (Or.inr (Or.inr (Or.inr (Or.inr (Or.inr (Or.inl ⟨a, b, f⟩))))))))
  · exact Or.inr (Or.inr (Or.inr (Or.inr (Or.inr (Or.inr (Or.inr (Or.inr (Or.inr (Or.inl ⟨a, b, f⟩)))))))))
  · exact Or.inr (Or.inr (Or.inr (Or.inr (Or.inr (Or.inr (Or.inr (Or.inr (Or.inr (Or.inr (Or.inl ⟨a, ⟨b.1, b.2.trans (by rw [aN_of d (Nat.lt_trans e (Int32.toNatClampNeg_lt _)), ks.2 c e])⟩, ⟨c, d, by omega⟩, f⟩))))))))))
  · exact Or.inr (Or.inr (Or.inr (Or.inr (Or.inr (Or.inr (Or.inr (Or.inr (Or.inr (Or.inr (Or.inr (Or.inl ⟨a, b, ⟨c, d, by omega, (kg.2 c e).trans go⟩, f⟩)))))))))))
  · exact Or.inr (Or.inr (Or.inr (Or.inr (Or.inr (Or.inr (Or.inr (Or.inr (Or.inr (Or.inr (Or.inr (Or.inr (Or.inl ⟨a, b, f⟩))))))))))))
  · exact Or.inr (Or.inr (Or.inr (Or.inr (Or.inr (Or.inr (Or.inr (Or.inr (Or.inr (Or.inr (Or.inr (Or.inr (Or.inr ⟨a, b, f⟩))))))))))))
/-- the variable that a node names is one -/
theorem WFN.var {m : md_S} {i j : Nat} (h : WFN m i j) (hk : mA m 66 i = 2 ∨ mA m 66 i = 40 ∨ mA m 66 i = 19) (h50 : mN m 50 ≤ 500) : aN m 68 i < mN m 50 := by
  have no : ∀ x y : Int32, mA m 66 i = x → mA m 66 i = y → x = y := fun x y p q => p.symm.trans q
  rcases h with ⟨a, b, ⟨c, d, e⟩, f⟩ | ⟨a, b, f⟩ | ⟨a, b, ⟨c, d, e, g7, go⟩, f⟩ | ⟨a, b, ⟨c, d, e⟩, f⟩ | ⟨a, ⟨c, d, e⟩, f⟩ | ⟨a, ⟨c, d, e⟩, f⟩ | ⟨a, b, f⟩ | ⟨a, b, c, d, e, f, g, g7, go⟩ | ⟨a, b, f⟩ | ⟨a, b, f⟩ | ⟨a, b, ⟨c, d, e⟩, f⟩ | ⟨a, b, ⟨c, d, e, go⟩, f⟩ | ⟨a, b, f⟩ | ⟨a, b, f⟩
  all_goals first
    | (rw [aN_of d (by omega)]; exact e)
    | (exfalso; revert hk; rcases a with a | a <;> rcases a with ⟨a, -⟩ | a <;> rw [a] <;> decide)
    | (exfalso; revert hk; rcases a with ⟨a, -⟩ | ⟨a, -⟩ <;> rw [a] <;> decide)
    | (exfalso; revert hk; rcases a with a | a | a | a | a <;> rw [a] <;> decide)
    | (exfalso; revert hk; rcases a with a | a | a | a <;> rw [a] <;> decide)
    | (exfalso; revert hk; rcases a with a | a <;> rw [a] <;> decide)
    | (exfalso; revert hk; rw [a]; decide)
theorem WFN.un {m : md_S} {i j : Nat} (h : WFN m i j) (hk : mA m 66 i = 9 ∨ mA m 66 i = 10) (h35 : mN m 35 ≤ 60) : aN m 68 i < mN m 35 ∧ mA m 68 i = nI (aN m 68 i) ∧ aN m 44 (aN m 68 i) ≤ 13 ∧ ∀ x, x < aN m 44 (aN m 68 i) → aN m 45 (16 * aN m 68 i + x) < mN m 50 := by
  rcases h with ⟨a, b, ⟨c, d, e⟩, f⟩ | ⟨a, b, f⟩ | ⟨a, b, ⟨c, d, e, g7, go⟩, f⟩ | ⟨a, b, ⟨c, d, e⟩, f⟩ | ⟨a, ⟨c, d, e⟩, f⟩ | ⟨a, ⟨c, d, e⟩, f⟩ | ⟨a, b, f⟩ | ⟨a, b, c, d, e, f, g, g7, go⟩ | ⟨a, b, f⟩ | ⟨a, b, f⟩ | ⟨a, b, ⟨c, d, e⟩, f⟩ | ⟨a, b, ⟨c, d, e, go⟩, f⟩ | ⟨a, b, f⟩ | ⟨a, b, f⟩
  all_goals first
    | (have hc : aN m 68 i = c := aN_of d (by omega)
       rw [hc]; exact ⟨e.1, d, f, g⟩)
    | (exfalso; revert hk; rcases a with ⟨a, -⟩ | ⟨a, -⟩ <;> rw [a] <;> decide)
    | (exfalso; revert hk; rcases a with a | a | a | a | a <;> rw [a] <;> decide)
    | (exfalso; revert hk; rcases a with a | a | a | a <;> rw [a] <;> decide)
    | (exfalso; revert hk; rcases a with a | a <;> rw [a] <;> decide)
    | (exfalso; revert hk; rw [a]; decide)
/-- a tree stays -/
def TK (m m' : md_S) (i : Nat) (ns : List Nat) : Prop := (∀ j, j ∈ ns → j < 900 → mA m' 66 j = mA m 66 j ∧ mA m' 67 j = mA m 67 j ∧ mA m' 68 j = mA m 68 j ∧ mA m' 69 j = mA m 69 j ∧ mA m' 70 j = mA m 70 j ∧ (j ≠ i → S7 m m' j)) ∧ ∀ q, 1000 + q ∈ ns → aN m' 44 q = aN m 44 q ∧ ∀ x, x < aN m 44 q → aN m' 45 (16 * q + x) = aN m 45 (16 * q + x)
theorem Gen.to {m m' : md_S} {u : Nat} (hk : KP m m') (h35 : mN m 35 ≤ 60) (h50 : mN m 50 ≤ 500) : ∀ {f : Nat} {i l0 l1 : Nat} {es : List EN} {ns : List Nat}, Gen m u f i l0 l1 es ns → ns.Nodup → TK m m' i ns → Gen m' u f i l0 l1 es ns
  | 0, _, _, _, _, _, h, _, _ => h.elim
  | f + 1, i, l0, l1, es, ns, ⟨h1, h2, ch, ess, n1, h3, h4, h5, h6, h7⟩, hnd, ht => by
      obtain ⟨t1, t2⟩ := ht
      have hi := t1 i (by rw [h6]; simp) h2
      obtain ⟨e66, e67, e68, e69, e70, -⟩ := hi
      have hin : i ∉ n1 := by
        rw [h6] at hnd
        exact fun y => (List.nodup_cons.mp hnd).1 (List.mem_append_right _ y)
      have hn1 : n1.Nodup := by
        rw [h6] at hnd
        exact (List.nodup_append.mp (List.nodup_cons.mp hnd).2).2.1
      have hsub : ∀ j, j ∈ n1 → j ∈ ns := fun j hj => by rw [h6]; simp [hj]
      have hum : mA m 66 i = 9 ∨ mA m 66 i = 10 → aN m' 44 (aN m 68 i) = aN m 44 (aN m 68 i) ∧ ∀ x, x < aN m 44 (aN m 68 i) → aN m' 45 (16 * aN m 68 i + x) = aN m 45 (16 * aN m 68 i + x) := fun hu => t2 (aN m 68 i) (by rw [h6, um, if_pos hu]; simp)
      have a68 : aN m' 68 i = aN m 68 i := by rw [aN, aN, e68]
      have hS : ∀ x, x ∈ ch → S7 m m' x := fun x hx => by
        have hxn := GL.mem h4 x hx
        have hx9 : x < 900 := by
          have : ∀ (l : List Nat) (v : Int32), SB m v l → x ∈ l → x < 900 := by
            intro l
            induction l with
            | nil => intro v _ hv; exact absurd hv (by simp)
            | cons y l ih =>
              intro v hv hx
              rcases List.mem_cons.mp hx with rfl | hx
              · exact hv.2.1
              · exact ih _ hv.2.2 hx
          exact this _ _ h3.1 hx
        exact (t1 x (hsub x hxn) hx9).2.2.2.2.2 (fun e => hin (by rw [← e]; exact hxn))
      refine ⟨e67.trans h1, h2, ch, ess, n1, ⟨?_, h3.2.1, fun x hx => (hS x hx).2.trans (h3.2.2 x hx)⟩, ?_, ?_, ?_, h7.to hk e66 e67 e68 e69 hum h35⟩
      · rw [e70]
        exact h3.1.to (fun x hx => (hS x hx).1)
      · rw [e66]
        have hgl : ∀ {ch : List Nat} {l0 l1 : Nat} {ess : List (List EN)} {nn : List Nat}, GL (Gen m u f) ch l0 l1 ess nn → nn.Nodup → (∀ j, j ∈ nn → j ∈ n1) → GL (Gen m' u f) ch l0 l1 ess nn := by
          intro ch
          induction ch with
          | nil => intro l0 l1 ess nn h _ _; exact h
          | cons x xs ih =>
            rintro l0 l1 ess nn ⟨la, es, rest, p1, p2, g1, g2, g3, g4⟩ hnd hsb
            rw [g4] at hnd hsb
            refine ⟨la, es, rest, p1, p2, Gen.to hk h35 h50 g1 (List.nodup_append.mp hnd).1 ⟨fun j hj h9 => ?_, fun q hq => t2 q (hsub _ (hsb _ (by simp [hq])))⟩, ih g2 (List.nodup_append.mp hnd).2.1 (fun j hj => hsb j (by simp [hj])), g3, g4⟩
            have hj1 : j ∈ n1 := hsb j (by simp [hj])
            obtain ⟨y1, y2, y3, y4, y5, y6⟩ := t1 j (hsub j hj1) h9
            exact ⟨y1, y2, y3, y4, y5, fun _ => y6 (fun e => hin (by rw [← e]; exact hj1))⟩
        exact hgl h4 hn1 (fun _ y => y)
      · rw [h5]
        unfold cmb
        rw [e66, e68, e69, a68]
        have kvv : mA m 66 i = 2 ∨ mA m 66 i = 40 ∨ mA m 66 i = 19 → kv m' (aN m 68 i) = kv m (aN m 68 i) := fun y => hk.1 _ (h7.var y h50)
        have gg : mA m 66 i = 9 ∨ mA m 66 i = 10 → gts m' (aN m 68 i) = gts m (aN m 68 i) := fun y => by
          obtain ⟨y1, y2⟩ := hum y
          obtain ⟨z1, z2, z3, z4⟩ := h7.un y h35
          unfold gts
          rw [y1]
          refine List.map_congr_left (fun x hx => ?_)
          have hx := List.mem_range.mp hx
          rw [y2 x hx, hk.1 _ (z4 x hx)]
        split
        · rename_i q; rw [kvv (Or.inr (Or.inl q))]
        · split
          · rfl
          · split
            · rename_i q; rw [kvv (Or.inr (Or.inr q))]
            · split
              · rfl
              · split
                · rename_i q; rw [kvv (Or.inl q)]
                · split
                  · rename_i q; rw [gg q]
                  · rfl
      · rw [h6]
        unfold um
        rw [e66, a68]
/-! how much stack a tree wants: w values, q open tries -/
def pnd (t : Int32) (k : Nat) : Nat := if t = 40 ∨ t = 41 ∨ t = 42 ∨ t = 19 then 0 else k
def tmk (t : Int32) (k : Nat) : Nat := if t = 19 ∧ k = 0 then 1 else 0
def GW (m : md_S) : Nat → Nat → Nat → Nat → Prop
  | 0, _, _, _ => False
  | f + 1, i, w, q => 1 ≤ w ∧ ∃ ch, CH m i ch ∧ (mA m 66 i = 9 ∨ mA m 66 i = 10 → ch.length + aN m 44 (aN m 68 i) ≤ w) ∧ ∀ k x, ch[k]? = some x → ∃ w' q', GW m f x w' q' ∧ w' + pnd (mA m 66 i) k ≤ w ∧ q' + tmk (mA m 66 i) k ≤ q
theorem GW.le {m : md_S} {f i w q w2 q2 : Nat} (h : GW m f i w q) (hw : w ≤ w2) (hq : q ≤ q2) : GW m f i w2 q2 := by
  cases f with
  | zero => exact h.elim
  | succ f =>
    obtain ⟨h1, ch, h2, h3, h4⟩ := h
    refine ⟨by omega, ch, h2, fun y => Nat.le_trans (h3 y) hw, fun k x hx => ?_⟩
    obtain ⟨w', q', a1, a2, a3⟩ := h4 k x hx
    exact ⟨w', q', a1, by omega, by omega⟩
theorem GW.up {m : md_S} : ∀ {f i w q : Nat}, GW m f i w q → GW m (f + 1) i w q
  | 0, _, _, _, h => h.elim
  | f + 1, i, w, q, ⟨h1, ch, h2, h3, h4⟩ => ⟨h1, ch, h2, h3, fun k x hx => by
      obtain ⟨w', q', a1, a2, a3⟩ := h4 k x hx
      exact ⟨w', q', GW.up a1, a2, a3⟩⟩
theorem GW.lef {m : md_S} {f g i w q : Nat} (h : GW m f i w q) (hg : f ≤ g) : GW m g i w q := by
  obtain ⟨d, rfl⟩ := Nat.exists_eq_add_of_le hg
  induction d with
  | zero => exact h
  | succ d ih => exact (ih (by omega)).up
theorem SB.det {m : md_S} : ∀ {l l2 : List Nat} {v : Int32}, SB m v l → SB m v l2 → l = l2
  | [], [], _, _, _ => rfl
  | [], x :: l2, v, h, ⟨h1, h2, _⟩ => absurd (h1.symm.trans (show v = -1 from h)) (nI_m1 (by omega))
  | x :: l, [], v, ⟨h1, h2, _⟩, h => absurd (h1.symm.trans (show v = -1 from h)) (nI_m1 (by omega))
  | x :: l, y :: l2, v, ⟨h1, h2, h3⟩, ⟨g1, g2, g3⟩ => by
      have e : x = y := (nI_eq (by omega) (by omega)).mp (h1.symm.trans g1)
      subst e
      rw [SB.det h3 g3]
theorem SB.l9 {m : md_S} {j : Nat} : ∀ {l : List Nat} {v : Int32}, SB m v l → j ∈ l → j < 900
  | [], _, _, hv => absurd hv (by simp)
  | y :: l, v, hv, hx => by
      rcases List.mem_cons.mp hx with rfl | hx
      · exact hv.2.1
      · exact SB.l9 hv.2.2 hx
theorem GL.at_ {G : Nat → Nat → Nat → List EN → List Nat → Prop} {x : Nat} : ∀ {ch : List Nat} {l0 l1 : Nat} {ess : List (List EN)} {ns : List Nat}, GL G ch l0 l1 ess ns → x ∈ ch → ∃ a b e n1, G x a b e n1 ∧ (∀ j, j ∈ n1 → j ∈ ns) ∧ (ns.Nodup → n1.Nodup)
  | [], _, _, _, _, _, hx => absurd hx (by simp)
  | y :: xs, l0, l1, ess, ns, ⟨la, es, rest, n1, n2, h1, h2, h3, h4⟩, hx => by
      rcases List.mem_cons.mp hx with hx | hx
      · rw [hx]
        exact ⟨_, _, _, n1, h1, fun j hj => by rw [h4]; simp [hj], fun h => by rw [h4] at h; exact (List.nodup_append.mp h).1⟩
      · obtain ⟨a, b, e, n3, g1, g2, g3⟩ := GL.at_ h2 hx
        exact ⟨a, b, e, n3, g1, fun j hj => by rw [h4]; simp [g2 j hj], fun h => g3 (by rw [h4] at h; exact (List.nodup_append.mp h).2.1)⟩
theorem Gen.gw {m m' : md_S} {u : Nat} : ∀ {f : Nat} {i l0 l1 : Nat} {es : List EN} {ns : List Nat}, Gen m u f i l0 l1 es ns → ns.Nodup → TK m m' i ns → ∀ {g w q : Nat}, GW m g i w q → GW m' g i w q
  | 0, _, _, _, _, _, h, _, _, _, _, _, _ => h.elim
  | f + 1, i, l0, l1, es, ns, ⟨h1, h2, ch, ess, n1, h3, h4, h5, h6, h7⟩, hnd, ht, g, w, q, hg => by
      cases g with
      | zero => exact hg.elim
      | succ g =>
      obtain ⟨w1, ch2, c2, u2, k2⟩ := hg
      obtain rfl : ch = ch2 := h3.1.det c2.1
      obtain ⟨t1, t2⟩ := ht
      obtain ⟨e66, e67, e68, e69, e70, -⟩ := t1 i (by rw [h6]; simp) h2
      have hin : i ∉ n1 := by
        rw [h6] at hnd
        exact fun y => (List.nodup_cons.mp hnd).1 (List.mem_append_right _ y)
      have hn1 : n1.Nodup := by
        rw [h6] at hnd
        exact (List.nodup_append.mp (List.nodup_cons.mp hnd).2).2.1
      have hsub : ∀ j, j ∈ n1 → j ∈ ns := fun j hj => by rw [h6]; simp [hj]
      have a68 : aN m' 68 i = aN m 68 i := by rw [aN, aN, e68]
      have hS : ∀ x, x ∈ ch → S7 m m' x := fun x hx => by
        have hxn := GL.mem h4 x hx
        exact (t1 x (hsub x hxn) (h3.1.l9 hx)).2.2.2.2.2 (fun e => hin (by rw [← e]; exact hxn))
      refine ⟨w1, ch, ⟨?_, h3.2.1, fun x hx => (hS x hx).2.trans (h3.2.2 x hx)⟩, fun y => ?_, fun k x hx => ?_⟩
      · rw [e70]
        exact h3.1.to (fun x hx => (hS x hx).1)
      · rw [e66] at y
        rw [a68, (t2 (aN m 68 i) (by rw [h6, um, if_pos y]; simp)).1]
        exact u2 y
      · obtain ⟨w', q', x1, x2, x3⟩ := k2 k x hx
        obtain ⟨a, b, e, n3, g1, g2, g3⟩ := GL.at_ h4 (List.mem_of_getElem? hx)
        refine ⟨w', q', Gen.gw g1 (g3 hn1) ⟨fun j hj h9 => ?_, fun z hz => t2 z (hsub _ (g2 _ hz))⟩ x1, by rw [e66]; exact x2, by rw [e66]; exact x3⟩
        obtain ⟨y1, y2, y3, y4, y5, y6⟩ := t1 j (hsub j (g2 j hj)) h9
        exact ⟨y1, y2, y3, y4, y5, fun _ => y6 (fun e => hin (by rw [← e]; exact g2 j hj))⟩
/-- what an expression may want that is read at depth t -/
def wB (t : Nat) : Nat := 6 * (24 - t) + 11
def WK (pw : Nat) (m m' : md_S) (r : Nat) : Prop := (6 ≤ pw → mN m 63 < 24) ∧ (mN m 63 ≤ 24 → ∃ g, GW m' g r (wB (mN m 63) - pw) (25 - mN m 63 - pw / 6))
theorem WK.le {pw pw2 : Nat} {m m' : md_S} {r : Nat} (h : WK pw m m' r) (hp : pw2 ≤ pw) : WK pw2 m m' r := by
  refine ⟨fun y => h.1 (by omega), fun y => ?_⟩
  obtain ⟨g, hg⟩ := h.2 y
  exact ⟨g, hg.le (by omega) (by omega)⟩
theorem WK.to {pw : Nat} {m m1 m' m2 : md_S} {r : Nat} (h : WK pw m m' r) (h63 : mN m1 63 = mN m 63) (hg : ∀ {g w q : Nat}, GW m' g r w q → GW m2 g r w q) : WK pw m1 m2 r := by
  unfold WK at h ⊢
  rw [h63]
  exact ⟨h.1, fun y => by obtain ⟨g, z⟩ := h.2 y; exact ⟨g, hg z⟩⟩
