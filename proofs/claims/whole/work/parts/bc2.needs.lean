/-! who needs a context: the class -/
/-- unit u has a node that works on its context -/
def NWn (m : md_S) (S : Nat → Prop) (u : Nat) : Prop := ∃ j, j < mN m 65 ∧ mA m 67 j = nI u ∧ HE m S (nE m j)
def CLO (m : md_S) (S : Nat → Prop) : Prop := (∀ u, u < mN m 35 → NWn m S u → S u) ∧ GCL m S
/-- the least of all -/
def LF (m : md_S) (u : Nat) : Prop := ∀ S : Nat → Prop, CLO m S → S u
theorem HE.mono {m : md_S} {S T : Nat → Prop} {e : EN} (hw : WFE m e) (h : ∀ v, v < mN m 35 → S v → T v) (hh : HE m S e) (h35 : mN m 35 ≤ 60) : HE m T e := by
  rcases hh with y | y | y | ⟨y1, y2, y3⟩ | ⟨v, v1, v2, v3⟩
  · exact Or.inl y
  · exact Or.inr (Or.inl y)
  · exact Or.inr (Or.inr (Or.inl y))
  · obtain ⟨a, ea, ha⟩ := hw.2 y1
    exact Or.inr (Or.inr (Or.inr (Or.inl ⟨y1, y2, h _ (by rw [ea, oN_nI (by omega)]; exact ha) y3⟩)))
  · exact Or.inr (Or.inr (Or.inr (Or.inr ⟨v, v1, v2, h v v1 v3⟩)))
/-- the scripts and the trees of the units -/
def TRS (c : cd_S) (m : md_S) (U : Nat) : Prop := ∀ u, u < U → ∃ es ns, SCP c u (es ++ [(28, 0, 0)]) ∧ GE m es ns ∧ (∀ j, j ∈ ns → j < 900 → mA m 67 j = nI u ∧ j < mN m 65) ∧ ∀ j, j < mN m 65 → mA m 67 j = nI u → j ∈ ns ∧ j < 900
def NS (c : cd_S) (m : md_S) (U : Nat) : Prop := cI c 66 0 = nI U ∧ U ≤ 60 ∧ mN m 35 = U ∧ UG c m U ∧ NAR c m ∧ mN m 62 ≤ 400 ∧ TRS c m U ∧ NU m ∧ ∀ u, u < U → ∃ g, g < U ∧ cI c 297 u = nI g ∧ GN c u g
theorem GN.to {c c' : cd_S} {u g : Nat} (hf : cd_fr [259, 301] [] c c') : GN c' u g ↔ GN c u g := by
  have e1 : ∀ u, cI c' 289 u = cI c 289 u := fun u => cd_frI hf (by decide) (by decide) u
  have e2 : ∀ u, cI c' 294 u = cI c 294 u := fun u => cd_frI hf (by decide) (by decide) u
  have e3 : ∀ u, cJ c' 293 u = cJ c 293 u := fun u => cd_frJ hf (by decide) (by decide) u
  unfold GN GRP
  simp only [e1, e2, e3]
theorem NS.fr {c c' : cd_S} {m : md_S} {U : Nat} (h : NS c m U) (hf : cd_fr [259, 301] [] c c') : NS c' m U := by
  obtain ⟨a1, a2, a3, a4, a5, a6, a7, a8, a9⟩ := h
  refine ⟨by rw [cd_frI hf (by decide) (by decide)]; exact a1, a2, a3, fun u hu => ?_, a5.to (CE.of hf (by decide)) (ME.refl _ _) (Nat.le_refl _), a6, fun u hu => ?_, a8, fun u hu => ?_⟩
  · rw [cd_frI hf (by decide) (by decide), cd_frI hf (by decide) (by decide), cd_frJ hf (by decide) (by decide)]; exact a4 u hu
  · obtain ⟨es, ns, b1, b2⟩ := a7 u hu
    exact ⟨es, ns, b1.fr hf (by simp), b2⟩
  · obtain ⟨g, g1, g2, g3⟩ := a9 u hu
    exact ⟨g, g1, by rw [cd_frI hf (by decide) (by decide)]; exact g2, (GN.to hf).mpr g3⟩
theorem NS.wfe {c : cd_S} {m : md_S} {U j : Nat} (h : NS c m U) (hj : j < mN m 65) : WFE m (nE m j) := by
  obtain ⟨a1, a2, a3, a4, a5, a6, a7, a8, a9⟩ := h
  obtain ⟨q, q1, q2⟩ := a8 j hj
  obtain ⟨es, ns, b1, b2, b3, b4⟩ := a7 q (by omega)
  obtain ⟨j1, j2⟩ := b4 j hj q2
  obtain ⟨k, hw⟩ := (b2.2 j j1 j2).1
  obtain ⟨-, -, -, -, w5, w6⟩ := hw.kj
  exact ⟨fun y => w6 y, fun y => (w5 (Or.inr y)).2⟩
theorem NWn.mono {c : cd_S} {m : md_S} {U u : Nat} {S T : Nat → Prop} (h : NS c m U) (hST : ∀ v, v < U → S v → T v) (hw : NWn m S u) : NWn m T u := by
  obtain ⟨j, j1, j2, j3⟩ := hw
  exact ⟨j, j1, j2, j3.mono (h.wfe j1) (fun v hv => hST v (by have := h.2.2.1; omega)) (by have := h.2.2.1; have := h.2.1; omega)⟩
theorem c_wantL {n : Nat} {c : cd_S} {m : md_S} {U u : Nat} {S : Nat → Prop} {E : List EN} (hn : 100 ≤ n) (h : NS c m U) (hE : SCP c u E) (hW : ∀ e, e ∈ E → WFE m e) (hS : ∀ u, u < U → (S u ↔ cI c 301 u ≠ 0)) (hG : GCL m S) : ∀ (d j i : Nat), i + d = E.length → d + 1 < j → (∀ x, x < i → ¬ HE m S (E.getD x (0, 0, 0))) → ∃ z i', f_X8_wantsContext_L4 n u j c 0 (nI i) = some (c, z, i') ∧ bI (∃ e, e ∈ E ∧ HE m S e) z := by
  have hlen := hE.len
  intro d
  induction d with
  | zero =>
    intro j i hi hj hx
    obtain ⟨j, rfl⟩ : ∃ q, j = q + 1 := ⟨j - 1, by omega⟩
    rw [u_X8_wantsContext_L4, if_pos rfl, c_len hE, bs_some]
    dsimp only
    rw [if_pos ((nI_leI (by omega) (by omega)).mpr (by omega))]
    refine ⟨0, _, rfl, bI.f ?_⟩
    rintro ⟨e, he, hh⟩
    obtain ⟨x, hx1, hx2⟩ := List.getElem_of_mem he
    refine hx x (by omega) ?_
    rw [List.getD_eq_getElem?_getD, List.getElem?_eq_getElem hx1, hx2]
    exact hh
  | succ d ih =>
    intro j i hi hj hx
    obtain ⟨j, rfl⟩ : ∃ q, j = q + 1 := ⟨j - 1, by omega⟩
    obtain ⟨w1, w2, w3⟩ := c_ent (n := n) hE (show i < E.length by omega)
    have hmem : E.getD i (0, 0, 0) ∈ E := by
      rw [List.getD_eq_getElem?_getD, List.getElem?_eq_getElem (show i < E.length by omega)]
      exact List.getElem_mem _
    obtain ⟨v, v1, v2⟩ := c_hands (n := n) (S := S) (e := E.getD i (0, 0, 0)) hn h.1 h.2.1 h.2.2.1 h.2.2.2.1 h.2.2.2.2.1 h.2.2.2.2.2.1 (hW _ hmem) hS hG
    rw [u_X8_wantsContext_L4, if_pos rfl, c_len hE, bs_some]
    dsimp only
    rw [if_neg (fun y => absurd ((nI_leI (by omega) (by omega)).mp y) (by omega)), w1, bs_some]
    dsimp only
    rw [w2, bs_some]
    dsimp only
    rw [w3, bs_some]
    dsimp only
    rw [v1, bs_some, nI_1]
    dsimp only
    rcases v2 with ⟨rfl, hh⟩ | ⟨rfl, hh⟩
    · obtain ⟨j, rfl⟩ : ∃ q, j = q + 1 := ⟨j - 1, by omega⟩
      rw [u_X8_wantsContext_L4, if_neg ne10]
      exact ⟨1, _, rfl, bI.t ⟨_, hmem, hh⟩⟩
    · refine ih j (i + 1) (by omega) (by omega) (fun x hx' => ?_)
      by_cases hxi : x = i
      · rw [hxi]; exact hh
      · exact hx x (by omega)
theorem c_wants {n : Nat} {c : cd_S} {m : md_S} {U u : Nat} {S : Nat → Prop} (hn : 1000000 ≤ n) (h : NS c m U) (hu : u < U) (hS : ∀ u, u < U → (S u ↔ cI c 301 u ≠ 0)) (hG : GCL m S) : ∃ v, f_X8_wantsContext n c u = some (v, c) ∧ bI (NWn m S u) v := by
  obtain ⟨es, ns, b1, b2, b3, b4⟩ := h.2.2.2.2.2.2.1 u hu
  have hlen := b1.len
  have h28 : ¬ HE m S ((28, 0, 0) : EN) := by
    rintro (y | y | y | y | ⟨v, -, y, -⟩)
    · exact absurd y (by decide)
    · exact absurd y (by decide)
    · exact absurd y (by decide)
    · exact absurd y.1 (by decide)
    · rcases y with ⟨y, -⟩ | ⟨y, -⟩ | ⟨y, -⟩ <;> exact absurd y (by decide)
  obtain ⟨z, i', z1, z2⟩ := c_wantL (n := n) (S := S) (u := u) (by omega) h b1 (fun e he => by
    rcases List.mem_append.mp he with he | he
    · exact WFE.gen b2 he
    · rw [List.mem_singleton.mp he]
      exact ⟨fun y => absurd y (by decide), fun y => absurd y (by decide)⟩) hS hG (es ++ [(28, 0, 0)]).length n 0 (by omega) (by omega) (fun x hx => by omega)
  refine ⟨z, ?_, z2.iff ?_⟩
  · unfold f_X8_wantsContext
    rw [show f_X8_wantsContext_L4 n u n c 0 0 = _ from z1, bs_some, z2.zb, bs_some]
  · have := HE.gen (S := S) b2
    constructor
    · rintro ⟨e, he, hh⟩
      rcases List.mem_append.mp he with he | he
      · obtain ⟨j, j1, j2, j3⟩ := this.mp ⟨e, he, hh⟩
        exact ⟨j, (b3 j j1 j2).2, (b3 j j1 j2).1, j3⟩
      · rw [List.mem_singleton.mp he] at hh
        exact absurd hh h28
    · rintro ⟨j, j1, j2, j3⟩
      obtain ⟨y1, y2⟩ := b4 j j1 j2
      obtain ⟨e, he, hh⟩ := this.mpr ⟨j, y1, y2, j3⟩
      exact ⟨e, List.mem_append_left _ he, hh⟩
theorem c_setnL {n : Nat} {c : cd_S} {U g : Nat} (hU : cI c 66 0 = nI U) (hU60 : U ≤ 60) : ∀ (d j i : Nat) (c1 : cd_S), i + d = U → d < j → cd_fr [259, 301] [] c c1 → (∀ u, cI c1 301 u = if u < i ∧ cI c 297 u = nI g then 1 else cI c 301 u) → (cI c1 259 0 = cI c 259 0 ∨ cI c1 259 0 = 1) → ((∃ u, u < i ∧ cI c 297 u = nI g) → cI c1 259 0 = 1) → ∃ c2, f_X8_setNeeds_L2 n (nI g) j c1 (nI i) = some (c2, nI U) ∧ cd_fr [259, 301] [] c c2 ∧ (∀ u, cI c2 301 u = if u < U ∧ cI c 297 u = nI g then 1 else cI c 301 u) ∧ (cI c2 259 0 = cI c 259 0 ∨ cI c2 259 0 = 1) ∧ ((∃ u, u < U ∧ cI c 297 u = nI g) → cI c2 259 0 = 1) := by
  intro d
  induction d with
  | zero =>
    intro j i c1 hi hj hf h h1 h2
    obtain ⟨j, rfl⟩ : ∃ q, j = q + 1 := ⟨j - 1, by omega⟩
    obtain rfl : i = U := by omega
    refine ⟨c1, ?_, hf, h, h1, h2⟩
    rw [u_X8_setNeeds_L2, cd_frI hf (by decide) (by decide), hU, if_pos ((nI_leI (by omega) (by omega)).mpr (Nat.le_refl _))]
  | succ d ih =>
    intro j i c1 hi hj hf h h1 h2
    obtain ⟨j, rfl⟩ : ∃ q, j = q + 1 := ⟨j - 1, by omega⟩
    have e297 : cI c1 297 i = cI c 297 i := cd_frI hf (by decide) (by decide) i
    rw [u_X8_setNeeds_L2, cd_frI hf (by decide) (by decide), hU, if_neg (fun y => absurd ((nI_leI (by omega) (by omega)).mp y) (by omega)), c_unitAt (by omega), bs_some]
    dsimp only
    rw [e297]
    by_cases hg : cI c 297 i = nI g
    · rw [if_pos hg, c_unitAt (by omega), bs_some, bs_some, bs_some]
      dsimp only
      unfold f_X8_setNeeds_J45
      rw [nI_1]
      refine ih j (i + 1) _ (by omega) (by omega) (cd_fr_SI (cd_fr_SI hf (by decide) (by decide) _ _) (by decide) (by decide) _ _) (fun u => ?_) (Or.inr cI_SIe) (fun _ => cI_SIe)
      rw [cI_SIo (by decide)]
      by_cases hui : u = i
      · rw [hui, cI_SIe, if_pos ⟨by omega, hg⟩]
      · rw [cI_SIi hui, h u]
        by_cases hc : u < i ∧ cI c 297 u = nI g
        · rw [if_pos hc, if_pos ⟨by omega, hc.2⟩]
        · rw [if_neg hc, if_neg (fun y => hc ⟨by omega, y.2⟩)]
    · rw [if_neg hg]
      unfold f_X8_setNeeds_J45
      rw [nI_1]
      refine ih j (i + 1) c1 (by omega) (by omega) hf (fun u => ?_) h1 (fun ⟨u, u1, u2⟩ => ?_)
      · rw [h u]
        by_cases hc : u < i ∧ cI c 297 u = nI g
        · rw [if_pos hc, if_pos ⟨by omega, hc.2⟩]
        · rw [if_neg hc, if_neg (fun y => hc ⟨by
            have : u ≠ i := fun z => hg (by rw [← z]; exact y.2)
            omega, y.2⟩)]
      · by_cases hui : u = i
        · rw [hui] at u2; exact absurd u2 hg
        · exact h2 ⟨u, by omega, u2⟩
theorem setn_ok {n : Nat} {c : cd_S} {U g : Nat} (hn : 100 ≤ n) (hU : cI c 66 0 = nI U) (hU60 : U ≤ 60) : ∃ c2, f_X8_setNeeds n c (nI g) = some (0, c2) ∧ cd_fr [259, 301] [] c c2 ∧ (∀ u, cI c2 301 u = if u < U ∧ cI c 297 u = nI g then 1 else cI c 301 u) ∧ (cI c2 259 0 = cI c 259 0 ∨ cI c2 259 0 = 1) ∧ ((∃ u, u < U ∧ cI c 297 u = nI g) → cI c2 259 0 = 1) := by
  obtain ⟨c2, e1, e2, e3, e4, e5⟩ := c_setnL (n := n) (c := c) (g := g) hU hU60 U n 0 c (by omega) (by omega) (cd_fr_refl _ _ _) (fun u => by rw [if_neg (by omega)]) (Or.inl rfl) (fun ⟨u, u1, _⟩ => by omega)
  refine ⟨c2, ?_, e2, e3, e4, e5⟩
  unfold f_X8_setNeeds
  rw [show f_X8_setNeeds_L2 n (nI g) n c 0 = _ from e1, bs_some]
