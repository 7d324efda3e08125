/-! what the readers' state gives for needs and code -/
theorem GL.lpn {m : md_S} {u f : Nat} (ih : ∀ {x a b : Nat} {e : List EN} {nx : List Nat}, Gen m u f x a b e nx → b ≤ a + 2 * nx.length) : ∀ {ch : List Nat} {l0 l1 : Nat} {ess : List (List EN)} {ns : List Nat}, GL (Gen m u f) ch l0 l1 ess ns → l1 ≤ l0 + 2 * ns.length
  | [], _, _, _, ns, ⟨h, _, _⟩ => by omega
  | x :: xs, l0, l1, ess, ns, ⟨la, es, rest, n1, n2, h1, h2, h3, h4⟩ => by
      have a := ih h1
      have b := GL.lpn ih h2
      rw [h4, List.length_append]
      omega
theorem Gen.lpn {m : md_S} {u : Nat} : ∀ {f : Nat} {i l0 l1 : Nat} {es : List EN} {ns : List Nat}, Gen m u f i l0 l1 es ns → l1 ≤ l0 + 2 * ns.length
  | 0, _, _, _, _, _, h => h.elim
  | f + 1, i, l0, l1, es, ns, ⟨h1, h2, ch, ess, n1, h3, h4, h5, h6, h7⟩ => by
      have a := GL.lpn (fun h => Gen.lpn h) h4
      have hl : lb (mA m 66 i) ≤ 2 := by unfold lb; split <;> (try split) <;> omega
      rw [h6, List.length_cons, List.length_append]
      omega
theorem OST.nb {c : cd_S} {m : md_S} {d : Nat} (h : OST c m d) : TBL m ∧ mI m 35 = nI (mN m 35) ∧ mI m 65 = nI (mN m 65) ∧ mN m 65 ≤ 800 ∧ mN m 62 ≤ 400 ∧ cI c 66 0 = nI (mN m 35) ∧ NU m ∧ LM m ∧ scS c (mN m 35) ≤ 9900 := by
  obtain ⟨⟨p1, p2, p3, p4, p5, p6, p7, p8, p9⟩, r1, ⟨d1, d2, d3, d4, d6⟩, e, f, i1, i2, i3, -, i5, i6, i7, i8, i9, i10⟩ := h
  have := i1.2.2.1
  have := i2.2.2.1
  have := i3.2.2.1
  exact ⟨⟨p8, by omega, by omega, by omega, by omega⟩, p7, d1, by omega, p6, by rw [p2]; exact p7, i1.2.2.2.2.1, i1.2.2.2.2.2, by omega⟩
theorem OST.ug {c : cd_S} {m : md_S} {d : Nat} (h : OST c m d) : UG c m (mN m 35) := by
  obtain ⟨-, -, -, e, -, -, -, -, -, -, -, i7, -⟩ := h
  intro u hu
  obtain ⟨a1, -, -, -, -, a6, -⟩ := e u hu
  exact ⟨a1, a6, i7 u hu⟩
theorem OST.cl {c : cd_S} {m : md_S} {d u : Nat} (h : OST c m d) (hu : u < mN m 35) : ∃ f r es l ns, r < 900 ∧ mA m 41 u = nI r ∧ Gen m u f r 0 l es ns ∧ ns.Nodup ∧ (∀ j, j ∈ ns → j < 900 → j < mN m 65) ∧ (∀ q, 1000 + q ∈ ns → q < mN m 35) ∧ l ≤ 400 ∧ rL c (17 + 3 * u) = fE (es ++ [eE]) ∧ ∀ j, j < mN m 65 → mA m 67 j = nI u → j ∈ ns := by
  have hb := h.nb
  obtain ⟨-, -, ⟨-, -, -, -, d6⟩, -, -, -, -, -, -, -, i6, -⟩ := h
  obtain ⟨f, r, es, l, ns, a1, a2, ⟨a3, ag⟩, a4, a5, a6, a7, a8, a9⟩ := i6 u hu
  obtain ⟨l', l1, l2⟩ := d6 u hu
  have hl : l ≤ 400 := by
    by_cases hlt : l < 2 ^ 31
    · have : l = l' := (nI_eq hlt (by omega)).mp (a8.symm.trans l1)
      omega
    · exfalso
      have hlen := a3.lpn
      have hnl := ns_len a4 a3.nsb a5 (fun q hq => (a6 q hq).2.1)
      have h35 := hb.1.1
      have h65 := hb.2.2.2.1
      omega
  exact ⟨f, r, es, l, ns, a1, a2, a3, a4, a5, fun q hq => (a6 q hq).2.1, hl, a7, a9⟩
theorem OST.wfe {c : cd_S} {m : md_S} {d j : Nat} (h : OST c m d) (hj : j < mN m 65) : WFE m (nE m j) := by
  obtain ⟨q, q1, q2⟩ := h.nb.2.2.2.2.2.2.1 j hj
  have h65 := h.nb.2.2.2.1
  obtain ⟨f, r, es, l, ns, -, -, a3, -, -, -, -, -, a9⟩ := h.cl q1
  obtain ⟨⟨k, hw⟩, -⟩ := a3.ge.2 j (a9 j hj q2) (by omega)
  obtain ⟨-, -, -, -, w5, w6⟩ := hw.kj
  exact ⟨fun y => w6 y, fun y => (w5 (Or.inr y)).2⟩
theorem OST.ms {c : cd_S} {m : md_S} {d : Nat} (h : OST c m d) : MS m (mN m 35) := by
  obtain ⟨⟨b1, b2, b3, b4, b5⟩, h2, h3, h4, h5, h6, h7, -, -⟩ := h.nb
  exact ⟨h2, b1, rfl, h3, by omega, h7, fun j hj => h.wfe hj, b5⟩
theorem OST.trs {c : cd_S} {m : md_S} {d : Nat} {C : Nat × Nat} {b : cd_B} (h : OST c m d) (hB : Bd C c b) : TRS c m (mN m 35) := by
  intro u hu
  have h35 := h.nb.1.1
  have h65 := h.nb.2.2.2.1
  obtain ⟨f, r, es, l, ns, a1, a2, a3, a4, a5, a6, a7, a8, a9⟩ := h.cl hu
  exact ⟨es, ns, ⟨hB.1 _ (by omega), a8⟩, a3.ge, fun j hj h9 => ⟨a3.n67 j hj h9, a5 j hj h9⟩, fun j hj hq => ⟨a9 j hj hq, by omega⟩⟩
theorem SG.fr {m m' : md_S} {F : List Nat} {u v : Nat} (hf : md_fr F m m') (hF : ∀ x, x ∈ [36, 39, 43] → x ∉ F) : SG m' u v ↔ SG m u v := by
  unfold SG
  rw [md_frA hf (hF 36 (by decide)), md_frA hf (hF 36 (by decide)), md_frA hf (hF 39 (by decide)), md_frA hf (hF 39 (by decide)), md_frL hf (hF 43 (by decide)), md_frL hf (hF 43 (by decide))]
theorem LF_fr {m m' : md_S} {F : List Nat} {u : Nat} (hf : md_fr F m m') (hF : ∀ x, x ∈ [35, 36, 39, 43, 61, 65, 66, 67, 68, 69] → x ∉ F) : LF m' u ↔ LF m u := by
  have n35 := mN_fr hf (hF 35 (by decide))
  have n65 := mN_fr hf (hF 65 (by decide))
  have e : ∀ j, nE m' j = nE m j := fun j => by
    unfold nE
    rw [md_frA hf (hF 66 (by decide)), md_frA hf (hF 68 (by decide)), md_frA hf (hF 69 (by decide))]
  have he : ∀ S x, HE m' S x ↔ HE m S x := fun S x => HE.fr hf (fun y hy => hF y (by revert hy; revert y; decide))
  have hs : ∀ a b, SG m' a b ↔ SG m a b := fun a b => SG.fr hf (fun y hy => hF y (by revert hy; revert y; decide))
  have a67 : ∀ j, mA m' 67 j = mA m 67 j := fun j => md_frA hf (hF 67 (by decide)) j
  have hn : ∀ S v, NWn m' S v ↔ NWn m S v := fun S v => by
    unfold NWn
    simp only [n65, a67, e, he]
  have hc : ∀ S, CLO m' S ↔ CLO m S := fun S => by
    unfold CLO GCL
    simp only [n35, hn, hs]
  unfold LF
  simp only [hc]
theorem MST.fr {c : cd_S} {m m' : md_S} {d : Nat} (h : MST c m d) (hf : md_fr [0, 5, 32, 33, 34, 47] m m') : MST c m' d := by
  obtain ⟨h1, ⟨g, l, h2, h3⟩, h4⟩ := h
  have hS : ∀ y, SS m m' y := fun y => ⟨md_frA hf (by decide) y, md_frA hf (by decide) y, fun _ _ => md_frL hf (by decide) _⟩
  refine ⟨h1.dom (cd_fr_refl _ _ _) hf, ⟨g, l, h2.fr (cd_fr_refl c [] []) hf (by decide) (by decide), ?_⟩, fun i hi => (h4 i hi).ss (hS i)⟩
  have e : (fun i => mskF m' i g) = fun i => mskF m i g := by
    funext i
    exact mskF_ss (fun y _ => hS _) (hS i) g h2.1
  rw [e]; exact h3
/-! the plan -/
/-- all that is so behind the search for needs -/
def PL1 (n : Nat) (c : cd_S) (m : md_S) (d : Nat) : Prop :=
  (∃ c0, OST c0 m d ∧ cd_fr [104, 259, 297, 301] [] c0 c ∧ P7 1280 m 0) ∧ (∃ g l z, PolQ c m g g l ∧ DomR c m z ∧ (∀ i, i < d → ∃ t, t < z ∧ cAr c 101 0 i = nI t ∧ mA m 32 i = nI t) ∧ ∀ x, x < mN m 48 → mA m 136 x = 0 → HM c g z l (168 + x) (cAr c 104 0 x)) ∧
  (∀ u, u < mN m 35 → ∃ g, g < mN m 35 ∧ cI c 297 u = nI g ∧ GN c u g) ∧ MCX m (mN m 35) (LF m) ∧ CCX c m (mN m 35) (LF m)
def plCF : List Nat := [66, 67, 68, 69, 70, 71, 72, 73, 74, 75, 76, 77, 78, 98, 99, 100, 101, 103, 104, 106, 107, 108, 109, 288, 289, 290, 291, 292, 293, 294, 295, 296, 297, 298, 299, 300, 301, 302]
def plMF : List Nat := [20, 22, 23, 24, 25, 26, 27, 28, 29, 30, 31, 32, 33, 34, 35, 36, 37, 38, 39, 40, 41, 42, 43, 44, 45, 46, 47, 48, 49, 50, 51, 52, 53, 54, 55, 58, 59, 60, 61, 62, 65, 66, 67, 68, 69, 70, 71, 72, 136]
def PLN (n : Nat) (c : cd_S) (m : md_S) (d : Nat) : Prop :=
  ∃ c1 m1, PL1 n c1 m1 d ∧ CE plCF c1 c ∧ (RK c1 c ∧ ∀ u, u < 60 → rL c (17 + 3 * u) = rL c1 (17 + 3 * u)) ∧ ME plMF m1 m ∧ PK m1 m ∧ ∀ u R, u < mN m1 35 → ∃ bs p, COD n c1 m1 u (LF m1) R bs ∧ rL c (cRw u R) = bs.map i64 ∧ p + bs.length ≤ 77990 ∧ MPL m u (kR R) p bs
