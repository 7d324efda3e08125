/-! what reading an expression does, in step -/
theorem GR.tree {c c' : cd_S} {m m1 m2 : md_S} (h : GR c c' m m1) (hf : md_fr [65, 66, 67, 68, 69, 70, 71, 72, 73] m1 m2) (h65 : mN m1 65 ≤ mN m2 65) (ht : ∀ j, j < mN m 65 → mA m2 66 j = mA m1 66 j ∧ mA m2 67 j = mA m1 67 j ∧ mA m2 68 j = mA m1 68 j ∧ mA m2 69 j = mA m1 69 j ∧ mA m2 70 j = mA m1 70 j ∧ S7 m1 m2 j) : GR c c' m m2 := by
  obtain ⟨⟨a1, a2⟩, b, d, e, f, g, i, j, l, o, p, q, r⟩ := h
  have n35 : mN m2 35 = mN m1 35 := mN_fr hf (by decide)
  have n62 : mN m2 62 = mN m1 62 := mN_fr hf (by decide)
  refine ⟨⟨by omega, fun x hx => ?_⟩, b.tr (KP.fr hf (by decide)), fun x hx => ?_, fun v hv => ?_, (md_frI hf (by decide)).trans f, fun x hx => (md_frA hf (by decide) x).trans (g x hx), (md_frI hf (by decide)).trans i, (md_frI hf (by decide)).trans j, (md_frI hf (by decide)).trans l, o, p, fun x h1 h2 => ?_, by omega⟩
  · obtain ⟨x1, x2, x3, x4, x5, x6⟩ := a2 x hx
    obtain ⟨y1, y2, y3, y4, y5, y6⟩ := ht x hx
    exact ⟨y1.trans x1, y2.trans x2, y3.trans x3, y4.trans x4, y5.trans x5, x6.tr y6⟩
  · obtain ⟨⟨x1, x2, x3, x4, x5, x6, x7, x8⟩, x9, x10⟩ := d x hx
    refine ⟨⟨(md_frA hf (by decide) x).trans x1, (md_frA hf (by decide) x).trans x2, (md_frA hf (by decide) x).trans x3, (md_frA hf (by decide) x).trans x4, (md_frA hf (by decide) x).trans x5, (md_frA hf (by decide) x).trans x6, (md_frL hf (by decide) x).trans x7, x8⟩, fun hne => ?_, fun hna => ?_⟩
    · exact ⟨(md_frA hf (by decide) x).trans (x9 hne).1, (x9 hne).2⟩
    · exact ⟨(md_frA hf (by decide) x).trans (x10 hna).1, fun y hy => (md_frA hf (by decide) _).trans ((x10 hna).2 y hy)⟩
  · obtain ⟨x1, x2, x3, x4⟩ := e v hv
    exact ⟨(md_frA hf (by decide) v).trans x1, (md_frL hf (by decide) v).trans x2, (md_frA hf (by decide) v).trans x3, (md_frA hf (by decide) v).trans x4⟩
  · rw [md_frA hf (by decide)]; exact q x h1 (by omega)
/-- the class alone changes its unit at work -/
theorem GR.cls {c c' c2 : cd_S} {m m' : md_S} (h : GR c c' m m') (h1 : ∀ i, i < mN m 35 → cJ c2 293 i = cJ c' 293 i ∧ (i ≠ mN m 64 → rL c2 (17 + 3 * i) = rL c' (17 + 3 * i) ∧ cI c2 302 i = cI c' 302 i)) (h2 : cI c2 137 0 = cI c' 137 0) (h3 : cP c2 135 0 = cP c' 135 0) : GR c c2 m m' := by
  obtain ⟨a, b, d, e, f, g, i, j, l, o, p, q, r⟩ := h
  refine ⟨a, b, fun x hx => ?_, e, f, g, i, j, l, h2.trans o, h3.trans p, q, r⟩
  obtain ⟨⟨x1, x2, x3, x4, x5, x6, x7, x8⟩, x9, x10⟩ := d x hx
  exact ⟨⟨x1, x2, x3, x4, x5, x6, x7, (h1 x hx).1.trans x8⟩, fun hne => ⟨(x9 hne).1, ((h1 x hx).2 hne).1.trans (x9 hne).2.1, ((h1 x hx).2 hne).2.trans (x9 hne).2.2⟩, x10⟩
theorem GR.em {c c' : cd_S} {m m' : md_S} {x y z : Int32} (h : GR c c' m m') : GR c (em c' (mN m 64) x y z) m m' :=
  h.cls (fun i _ => ⟨em_J (by decide), fun hne => ⟨em_Lo (by omega), em_I (by decide)⟩⟩) (em_I (by decide)) (em_P (by decide))
theorem GR.lab {c c' : cd_S} {m m' : md_S} {v : Int32} (h : GR c c' m m') : GR c (cSI c' 302 (mN m 64) v) m m' :=
  h.cls (fun i _ => ⟨rfl, fun hne => ⟨rL_SI (by decide), cI_SIi hne⟩⟩) (cI_SIo (by decide)) rfl
theorem GR.part {c : cd_S} {m : md_S} {p : Nat} (h35 : mN m 35 ≤ 60) (hp : p = mN m 62) (h4 : p < 400) : GR c (cSI c 138 0 (nI (p + 1))) m (mSI m 62 (nI (p + 1))) :=
  GR.fr (F := [138]) (R := []) (G := [62]) (cd_fr_SI (cd_fr_refl _ _ _) (by decide) (by decide) _ _) (md_fr_SI (md_fr_refl _ _) (by decide) _) (by decide) (by simp) h35 (mI_SIo (by decide)) (by rw [mN_of (k := 62) mI_SIe (by omega)]; omega) (by decide)
theorem GR.adv {c c' : cd_S} {m m' : md_S} (hc : cd_fr [327, 328, 329, 330] [] c c') (hm : md_fr [6, 7, 8, 9, 10, 11, 12, 13, 14, 15] m m') (h35 : mN m 35 ≤ 60) (h7 : mI m' 7 = mI m 7) : GR c c' m m' :=
  GR.fr hc hm (by decide) (by simp) h35 h7 (by rw [mN_fr hm (by decide)]; exact Nat.le_refl _) (by decide)
theorem ST.adv {c c' : cd_S} {m m' : md_S} {O : List Nat} {mc k kl : Nat} (h : ST c m O mc k kl) (hc : cd_fr [327, 328, 329, 330] [] c c') (hm : md_fr [6, 7, 8, 9, 10, 11, 12, 13, 14, 15] m m') : ST c' m' O mc k kl := h.fr hc hm (by decide) (by decide)
theorem CS.adv {c c' : cd_S} {k : Nat} (h : CS c k) (hc : cd_fr [327, 328, 329, 330] [] c c') : CS c' k ∧ cN c' 66 = cN c 66 :=
  ⟨h.to (CE.of hc (by decide)) (fun i _ => cd_frz hc (by simp)), by rw [cN, cN, cd_frI hc (by decide) (by decide)]⟩
theorem CS.emit {c : cd_S} {k u : Nat} {x y z : Int32} (h : CS c (k + 1)) (hu : u < cN c 66) : CS (em c u x y z) k ∧ cN (em c u x y z) 66 = cN c 66 := by
  have q1 : cN (em c u x y z) 138 = cN c 138 := by rw [cN, cN, em_I (by decide)]
  have q2 : cN (em c u x y z) 66 = cN c 66 := by rw [cN, cN, em_I (by decide)]
  have q3 : cN (em c u x y z) 134 = cN c 134 := by rw [cN, cN, em_I (by decide)]
  obtain ⟨x1, x2, x3, x4, x5, x6, x7, x8, x9⟩ := h
  refine ⟨⟨?_, ?_, ?_, ?_, ?_, ?_, ?_, ?_, ?_⟩, q2⟩
  · rw [q1, em_I (by decide)]; exact x1
  · rw [q1]; exact x2
  · rw [q2, em_I (by decide)]; exact x3
  · rw [q2]; exact x4
  · rw [q1, q2, scS_em hu (em_sz (by have := (x9 u hu).1; omega))]; omega
  · trivial
  · rw [q2, em_P (by decide)]; exact x7
  · rw [q2, em_P (by decide)]; exact x8
  · intro i hi
    rw [q2] at hi ⊢
    rw [q1, em_I (by decide), em_I (by decide), em_I (by decide)]
    obtain ⟨y1, y2⟩ := x9 i hi
    refine ⟨?_, y2⟩
    by_cases hi' : i = u
    · rw [hi'] at y1 ⊢
      rw [em_sz (by omega)]; omega
    · rw [em_szo (by omega)]; omega
theorem CS.now {c : cd_S} {k : Nat} (h : CS c k) : ∃ u, u < cN c 66 ∧ u < 60 ∧ cP c 136 0 = u + 1 ∧ cd_dp c 136 0 = some u ∧ rsz c (17 + 3 * u) + 3 * k ≤ 9900 := by
  obtain ⟨x1, x2, x3, x4, x5, x6, ⟨u, u1, u2⟩, x8, x9⟩ := h
  exact ⟨u, u1, by omega, u2, c_now u2 (by omega), by have := (x9 u u1).1; omega⟩
/-- the class emits, whatever the words are -/
theorem CS.em {n : Nat} {C : Nat × Nat} {c0 c : cd_S} {b0 b : cd_B} {k : Nat} {x y z : Int32} (hC : BC C) (h : CS c (k + 1)) (hc : CI C c0 b0 c b) : ∃ u b', u < 60 ∧ cd_dp c 136 0 = some u ∧ f_X9_emit n c b u x y z = some (0, em c u x y z, b') ∧ ble b' b ∧ CI C c0 b' (em c u x y z) b' ∧ CS (em c u x y z) k ∧ cN (em c u x y z) 66 = cN c 66 := by
  obtain ⟨u, u1, u2, u3, u4, u5⟩ := h.now
  obtain ⟨b', e1, e2, e3⟩ := c_emit (n := n) (x := x) (y := y) (z := z) hC hc.1 u2 (by omega)
  exact ⟨u, b', u2, u4, e1, e3, (hc.em e2 e3 u2).here, h.emit u1⟩
theorem BW.em {c : cd_S} {u pl : Nat} {x y z : Int32} (h : BW c pl) : BW (em c u x y z) pl := ⟨(em_I (by decide)).trans h.1, (em_I (by decide)).trans h.2⟩
/-- where an expression was read -/
def EOk (pw : Nat) (B : Nat → Int32) (N : Nat) (c : cd_S) (m : md_S) (O : List Nat) (mc k kl : Nat) (L : List WD) (_ : Int32) (c' : cd_S) (_ : cd_B) (x : Int32) (m' : md_S) : Prop :=
  (∃ w' L', LX B N c' m' w' L' ∧ L'.length < L.length) ∧ ST c' m' O mc k kl ∧ GR c c' m m' ∧ mN m 62 < mN m' 62 ∧
  ∃ f r es l0 l1 ns, x = nI r ∧ cI c 302 (mN m 64) = nI l0 ∧ cI c' 302 (mN m 64) = nI l1 ∧ l0 ≤ 1000 ∧ l1 ≤ 1000 ∧ (Gen m' (mN m 64) f r l0 l1 es ns ∧ WK pw m m' r) ∧ NB m' O (mN m 65) (mN m 35) ns ∧ mA m' 71 r = -1 ∧ rL c' (17 + 3 * mN m 64) = rL c (17 + 3 * mN m 64) ++ fE es ∧ CV m' O (mN m 64) (mN m 65) (mN m 35) ns
def EX (C : Nat × Nat) (B : Nat → Int32) (N : Nat) (fc : cd_S → cd_B → Option Th) (fm : md_S → Option (Int32 × md_S)) (dm kd pw : Nat) : Prop :=
  ∀ (c0 : cd_S) (m0 : md_S) (c : cd_S) (m : md_S) (b : cd_B) (w : WD) (L : List WD) (O : List Nat) (mc k kl : Nat), CI C c0 b c b → MI m0 m → LX B N c m w L → ST c m O mc k (kl + 1) → mI m 63 = nI dm → kl ≤ kd → OUT C c0 m0 b (fc c b) (fm m) (EOk pw B N c m O mc k kl L) (fun c' _ => CS c' k ∧ cN c 66 ≤ cN c' 66)
def NFX (fm : md_S → Option (Int32 × md_S)) : Prop := ∀ (m0 m : md_S) (k pl : Nat), MI m0 m → NF m k pl → ∃ x m2, fm m = some (x, m2) ∧ MI m0 m2 ∧ NF m2 k pl
def BWX (C : Nat × Nat) (fc : cd_S → cd_B → Option Th) : Prop := ∀ (c0 c : cd_S) (b : cd_B) (pl : Nat), CI C c0 b c b → BW c pl → OP C c0 b (fc c b) pl (fun _ _ => False)
theorem PT.low {ω : Nat → Nat × Nat} {m : md_S} {O : List Nat} {u p l0 l1 nn0 un0 nn1 un1 : Nat} {ch : List Nat} {ess : List (List EN)} {ns : List Nat} (h : PT ω m O u p l0 l1 nn0 un0 ch ess ns) (h1 : nn1 ≤ nn0) (h2 : un1 ≤ un0) : PT ω m O u p l0 l1 nn1 un1 ch ess ns :=
  ⟨h.1, h.2.1, h.2.2.1, h.2.2.2.1, h.2.2.2.2.1, h.2.2.2.2.2.low h1 h2⟩
/-- a node is whole -/
theorem PT.gen {ω : Nat → Nat × Nat} {m : md_S} {O : List Nat} {u p l0 l1 nn0 un0 : Nat} {ch : List Nat} {ess : List (List EN)} {ns : List Nat} (h : PT ω m O u p (l0 + lb (mA m 66 p)) l1 nn0 un0 ch ess ns) (hu : um m p = []) (hw : WFN m p ch.length) : ∃ f, Gen m u f p l0 l1 (cmb m p l0 ess) (p :: ns) ∧ ∀ w q, 1 ≤ w → (∀ k, k < ch.length → 0 < (ω k).1 ∧ (ω k).1 + pnd (mA m 66 p) k ≤ w ∧ (ω k).2 + tmk (mA m 66 p) k ≤ q) → GW m f p w q := by
  obtain ⟨a1, a2, a3, a4, ⟨f, a5, aw⟩, a6⟩ := h
  refine ⟨f + 1, ⟨a2, a1, ch, ess, ns, a4, a5, rfl, by rw [hu]; rfl, hw⟩, fun w q h1 h2 => ⟨h1, ch, a4, fun y => ?_, fun k x hx => ?_⟩⟩
  · unfold um at hu
    rw [if_pos y] at hu
    exact absurd hu (by simp)
  · have hk : k < ch.length := by
      by_cases hk : k < ch.length
      · exact hk
      · rw [List.getElem?_eq_none (by omega)] at hx; exact absurd hx (by simp)
    obtain ⟨b1, b2, b3⟩ := h2 k hk
    exact ⟨_, _, aw k x hx b1, b2, b3⟩
/-- a kind whose children all but the first want less -/
theorem WFN.ch4 {m : md_S} {i j : Nat} (h : WFN m i j) (hk : mA m 66 i ≠ 40 ∧ mA m 66 i ≠ 41 ∧ mA m 66 i ≠ 42 ∧ mA m 66 i ≠ 19) : j ≤ 4 := by
  rcases h with ⟨a, b, -⟩ | ⟨a, b, -⟩ | ⟨a, b, -⟩ | ⟨a, b, -⟩ | ⟨(⟨a, b⟩ | ⟨a, b⟩), -⟩ | ⟨a, -, k, k1, k2, b⟩ | ⟨a, -, k, k1, k2, b⟩ | ⟨(⟨a, b⟩ | ⟨a, b⟩), -⟩ | ⟨a, b, -⟩ | ⟨a, b, -⟩ | ⟨a, b, -⟩ | ⟨a, -⟩ | ⟨a, -⟩ | ⟨a, -⟩
  all_goals first
    | omega
    | (exfalso; rcases a with a | a
       · exact hk.1 a
       · exact hk.2.2.2 a)
    | exact absurd a hk.2.1
    | exact absurd a hk.2.2.1
/-- what the children of a node in the making may want; t is its kind -/
def ωB (m : md_S) (t : Int32) (k : Nat) : Nat × Nat := if mN m 63 ≤ 24 then (wB (mN m 63) - (if k = 0 ∧ t ≠ 19 ∧ t ≠ 42 then 3 else 6), 25 - mN m 63 - (if k = 0 ∧ t ≠ 19 ∧ t ≠ 42 then 0 else 1)) else (0, 0)
theorem wB_ge {t : Nat} : 11 ≤ wB t := by unfold wB; omega
theorem ωB_fin {m m' : md_S} {i : Nat} {t : Int32} {ch : List Nat} (h66 : mA m' 66 i = t) (hw : WFN m' i ch.length) (h24 : mN m 63 ≤ 24) : 1 ≤ wB (mN m 63) - 3 ∧ ∀ k, k < ch.length → 0 < (ωB m t k).1 ∧ (ωB m t k).1 + pnd (mA m' 66 i) k ≤ wB (mN m 63) - 3 ∧ (ωB m t k).2 + tmk (mA m' 66 i) k ≤ 25 - mN m 63 - 3 / 6 := by
  have hB := wB_ge (t := mN m 63)
  refine ⟨by omega, fun k hk => ?_⟩
  unfold ωB
  rw [if_pos h24, h66]
  dsimp only
  have h4 := hw.ch4
  rw [h66] at h4
  unfold pnd tmk
  by_cases h19 : t = 19
  · have hne : ¬ (k = 0 ∧ t ≠ 19 ∧ t ≠ 42) := fun y => y.2.1 h19
    simp only [if_neg hne]
    rw [if_pos (Or.inr (Or.inr (Or.inr h19)))]
    refine ⟨by omega, by omega, ?_⟩
    split <;> omega
  · rw [if_neg (show ¬ (t = 19 ∧ k = 0) from fun y => h19 y.1)]
    by_cases hs : t = 40 ∨ t = 41 ∨ t = 42 ∨ t = 19
    · rw [if_pos hs]
      refine ⟨?_, ?_, ?_⟩
      · split <;> omega
      · split <;> omega
      · split <;> omega
    · rw [if_neg hs]
      have := h4 ⟨fun y => hs (Or.inl y), fun y => hs (Or.inr (Or.inl y)), fun y => hs (Or.inr (Or.inr (Or.inl y))), h19⟩
      by_cases h0 : k = 0
      · have h42 : t ≠ 42 := fun y => hs (Or.inr (Or.inr (Or.inl y)))
        rw [if_pos ⟨h0, h19, h42⟩, if_pos ⟨h0, h19, h42⟩]
        omega
      · rw [if_neg (fun y => h0 y.1), if_neg (fun y => h0 y.1)]
        omega
theorem ωB_row {m m' : md_S} {i : Nat} {ch : List Nat} (h66 : mA m' 66 i = 42) (h24 : mN m 63 ≤ 24) : 1 ≤ wB (mN m 63) - 6 ∧ ∀ k, k < ch.length → 0 < (ωB m 42 k).1 ∧ (ωB m 42 k).1 + pnd (mA m' 66 i) k ≤ wB (mN m 63) - 6 ∧ (ωB m 42 k).2 + tmk (mA m' 66 i) k ≤ 25 - mN m 63 - 6 / 6 := by
  have hB := wB_ge (t := mN m 63)
  refine ⟨by omega, fun k hk => ?_⟩
  have hne : ¬ (k = 0 ∧ (42 : Int32) ≠ 19 ∧ (42 : Int32) ≠ 42) := fun y => y.2.2 rfl
  unfold ωB
  rw [if_pos h24, h66]
  simp only [if_neg hne]
  unfold pnd tmk
  rw [if_pos (Or.inr (Or.inr (Or.inl rfl))), if_neg (fun y => absurd y.1 (by decide))]
  omega
theorem WK.om {m m' m1 : md_S} {pw r k : Nat} {t : Int32} (h : WK pw m1 m' r) (h63 : mN m1 63 = mN m 63) (hp : 3 ≤ pw) (h6 : k ≠ 0 ∨ t = 19 ∨ t = 42 → 6 ≤ pw) : ∃ g, 0 < (ωB m t k).1 → GW m' g r (ωB m t k).1 (ωB m t k).2 := by
  unfold ωB
  by_cases h24 : mN m 63 ≤ 24
  · rw [if_pos h24]
    dsimp only
    obtain ⟨g, hg⟩ := h.2 (by omega)
    rw [h63] at hg
    refine ⟨g, fun _ => hg.le ?_ ?_⟩
    · split
      · omega
      · rename_i hc
        have : 6 ≤ pw := h6 (by
          by_cases h0 : k = 0
          · right
            by_cases ht : t = 19
            · exact Or.inl ht
            · by_cases ht2 : t = 42
              · exact Or.inr ht2
              · exact absurd ⟨h0, ht, ht2⟩ hc
          · exact Or.inl h0)
        omega
    · split
      · omega
      · rename_i hc
        have : 6 ≤ pw := h6 (by
          by_cases h0 : k = 0
          · right
            by_cases ht : t = 19
            · exact Or.inl ht
            · by_cases ht2 : t = 42
              · exact Or.inr ht2
              · exact absurd ⟨h0, ht, ht2⟩ hc
          · exact Or.inl h0)
        omega
  · rw [if_neg h24]
    exact ⟨0, fun y => absurd y (by decide)⟩
theorem Gen.ndw {m m' : md_S} {u f i l0 l1 : Nat} {es : List EN} {ns : List Nat} {O : List Nat} {nn0 un0 : Nat} {G : List Nat} (h : Gen m u f i l0 l1 es ns) (hb : NB m O nn0 un0 ns) (hf : md_fr G m m') (hG : ∀ x, x ∈ [44, 45] → x ∉ G) (ht : ∀ j, j < mN m 65 → mA m' 66 j = mA m 66 j ∧ mA m' 67 j = mA m 67 j ∧ mA m' 68 j = mA m 68 j ∧ mA m' 69 j = mA m 69 j ∧ mA m' 70 j = mA m 70 j ∧ (j ≠ i → S7 m m' j)) {g w q : Nat} (hg : GW m g i w q) : GW m' g i w q :=
  Gen.gw h hb.2.2.1 ⟨fun j hj h9 => ht j (hb.1 j hj h9).2, fun q _ => ⟨by rw [aN, aN, md_frA hf (hG 44 (by decide))], fun x _ => by rw [aN, aN, md_frA hf (hG 45 (by decide))]⟩⟩ hg
/-- a tree of old stays with parts and nodes new -/
theorem Gen.nd {m m' : md_S} {u f i l0 l1 : Nat} {es : List EN} {ns : List Nat} {O : List Nat} {nn0 un0 : Nat} {G : List Nat} (h : Gen m u f i l0 l1 es ns) (hb : NB m O nn0 un0 ns) (h35 : mN m 35 ≤ 60) (h50 : mN m 50 ≤ 500) (hf : md_fr G m m') (hG : ∀ x, x ∈ [25, 30, 31, 35, 36, 39, 44, 45, 48, 50, 51, 53, 54, 58, 60, 136] → x ∉ G) (ht : ∀ j, j < mN m 65 → mA m' 66 j = mA m 66 j ∧ mA m' 67 j = mA m 67 j ∧ mA m' 68 j = mA m 68 j ∧ mA m' 69 j = mA m 69 j ∧ mA m' 70 j = mA m 70 j ∧ (j ≠ i → S7 m m' j)) : Gen m' u f i l0 l1 es ns :=
  h.to (KP.fr hf (fun x hx => hG x (by revert hx; revert x; decide))) h35 h50 hb.2.2.1 ⟨fun j hj h9 => ht j (hb.1 j hj h9).2, fun q _ => ⟨by rw [aN, aN, md_frA hf (hG 44 (by decide))], fun x _ => by rw [aN, aN, md_frA hf (hG 45 (by decide))]⟩⟩
theorem EOk.wk {pw pw2 : Nat} {B : Nat → Int32} {N : Nat} {c c' : cd_S} {m m' : md_S} {O : List Nat} {mc k kl : Nat} {L : List WD} {v x : Int32} {b' : cd_B} (h : EOk pw B N c m O mc k kl L v c' b' x m') (hp : pw2 ≤ pw) : EOk pw2 B N c m O mc k kl L v c' b' x m' := by
  obtain ⟨a1, a2, a3, a4, f, r, es, l0, l1, ns, y1, y2, y3, y4, y5, ⟨hG, hW⟩, y6⟩ := h
  exact ⟨a1, a2, a3, a4, f, r, es, l0, l1, ns, y1, y2, y3, y4, y5, ⟨hG, hW.le hp⟩, y6⟩
theorem EOk.d24 {pw : Nat} {B : Nat → Int32} {N : Nat} {c c' : cd_S} {m m' : md_S} {O : List Nat} {mc k kl : Nat} {L : List WD} {v x : Int32} {b' : cd_B} (h : EOk pw B N c m O mc k kl L v c' b' x m') (hp : 6 ≤ pw) : mN m 63 < 24 := by
  obtain ⟨-, -, -, -, f, r, es, l0, l1, ns, -, -, -, -, -, ⟨-, hW⟩, -⟩ := h
  exact hW.1 hp
