/-! who needs a context: the class's passes -/
def nC (c : cd_S) (u : Nat) : Prop := cI c 301 u ≠ 0
/-- how many of the first u are 0 -/
def zc (f : Nat → Int32) : Nat → Nat
  | 0 => 0
  | u + 1 => zc f u + (if f u = 0 then 1 else 0)
theorem zc_le (f : Nat → Int32) : ∀ u, zc f u ≤ u
  | 0 => Nat.le_refl _
  | u + 1 => by
      have := zc_le f u
      show zc f u + (if f u = 0 then 1 else 0) ≤ u + 1
      split <;> omega
theorem zc_mono {f g : Nat → Int32} : ∀ u, (∀ i, i < u → f i ≠ 0 → g i ≠ 0) → zc g u ≤ zc f u
  | 0, _ => Nat.le_refl _
  | u + 1, h => by
      have := zc_mono u (fun i hi => h i (by omega))
      show zc g u + (if g u = 0 then 1 else 0) ≤ zc f u + (if f u = 0 then 1 else 0)
      by_cases hf : f u = 0
      · rw [if_pos hf]; split <;> omega
      · rw [if_neg hf, if_neg (h u (by omega) hf)]; omega
theorem zc_lt {f g : Nat → Int32} : ∀ u, (∀ i, i < u → f i ≠ 0 → g i ≠ 0) → (∃ i, i < u ∧ f i = 0 ∧ g i ≠ 0) → zc g u < zc f u
  | 0, _, ⟨i, hi, _⟩ => by omega
  | u + 1, h, ⟨i, hi, h1, h2⟩ => by
      show zc g u + (if g u = 0 then 1 else 0) < zc f u + (if f u = 0 then 1 else 0)
      by_cases hiu : i = u
      · have := zc_mono u (fun i hi => h i (by omega))
        rw [hiu] at h1 h2
        rw [if_pos h1, if_neg h2]; omega
      · have := zc_lt u (fun i hi => h i (by omega)) ⟨i, by omega, h1, h2⟩
        by_cases hf : f u = 0
        · rw [if_pos hf]; split <;> omega
        · rw [if_neg hf, if_neg (h u (by omega) hf)]; omega
/-- the state of the search -/
def NI (c : cd_S) (m : md_S) (U : Nat) : Prop := NS c m U ∧ GCL m (nC c) ∧ ∀ u, u < U → nC c u → LF m u
theorem LF.w {c : cd_S} {m : md_S} {U u : Nat} (h : NI c m U) (hu : u < U) (hw : NWn m (nC c) u) : LF m u := fun S hS => hS.1 u (by have := h.1.2.2.1; omega) (hw.mono h.1 (fun v hv hn => h.2.2 v hv hn S hS))
theorem LF.g {m : md_S} {u v : Nat} (h : LF m v) (hu : u < mN m 35) (hv : v < mN m 35) (hs : SG m u v) : LF m u := fun S hS => hS.2 u v hu hv hs (h S hS)
/-- a group is set -/
theorem NI.set {n : Nat} {c : cd_S} {m : md_S} {U u g : Nat} (hn : 100 ≤ n) (h : NI c m U) (hu : u < U) (hg : cI c 297 u = nI g) (hg60 : g < U) (hw : NWn m (nC c) u) : ∃ c2, f_X8_setNeeds n c (nI g) = some (0, c2) ∧ cd_fr [259, 301] [] c c2 ∧ NI c2 m U ∧ cI c2 259 0 = 1 ∧ nC c2 u ∧ ∀ v, nC c v → nC c2 v := by
  obtain ⟨c2, e1, e2, e3, e4, e5⟩ := setn_ok (n := n) (c := c) (g := g) hn h.1.1 h.1.2.1
  obtain ⟨a1, a2, a3, a4, a5, a6, a7, a8, a9⟩ := h.1
  have iff2 : ∀ v, v < U → (nC c2 v ↔ nC c v ∨ cI c 297 v = nI g) := fun v hv => by
    unfold nC
    rw [e3 v]
    by_cases hc : v < U ∧ cI c 297 v = nI g
    · rw [if_pos hc]; exact ⟨fun _ => Or.inr hc.2, fun _ => by decide⟩
    · rw [if_neg hc]; exact ⟨Or.inl, fun y => y.elim (fun z => z) (fun z => absurd ⟨hv, z⟩ hc)⟩
  have same : ∀ x y, x < U → y < U → (cI c 297 x = cI c 297 y ↔ (x = y ∨ SG m x y)) := fun x y hx hy => by
    obtain ⟨g1, p1, p2, p3⟩ := a9 x hx
    obtain ⟨g2, r1, r2, r3⟩ := a9 y hy
    rw [p2, r2, nI_eq (by omega) (by omega)]
    exact sg_iff a4 hx hy p1 r1 p3 r3
  refine ⟨c2, e1, e2, ⟨h.1.fr e2, fun x y hx hy hs hy2 => ?_, fun v hv hv2 => ?_⟩, e5 ⟨u, hu, hg⟩, (iff2 u hu).mpr (Or.inr hg), fun v hv => ?_⟩
  · rcases (iff2 y (by omega)).mp hy2 with z | z
    · exact (iff2 x (by omega)).mpr (Or.inl (h.2.1 x y hx hy hs z))
    · exact (iff2 x (by omega)).mpr (Or.inr (((same x y (by omega) (by omega)).mpr (Or.inr hs)).trans z))
  · rcases (iff2 v hv).mp hv2 with z | z
    · exact h.2.2 v hv z
    · have hlu := LF.w h hu hw
      rcases (same v u hv hu).mp (z.trans hg.symm) with y | y
      · rw [y]; exact hlu
      · exact hlu.g (by omega) (by omega) y
  · unfold nC
    rw [e3 v]
    split
    · decide
    · exact hv
theorem c_passL {n : Nat} {c : cd_S} {m : md_S} {U : Nat} {l1 : Int32} (hn : 1000000 ≤ n) (hc0 : NI c m U) : ∀ (d j i : Nat) (c1 : cd_S), i + d = U → d < j → NI c1 m U → cd_fr [259, 301] [] c c1 → (∀ v, nC c v → nC c1 v) → ((cI c1 259 0 = 0 ∧ (∀ v, v < U → (nC c1 v ↔ nC c v)) ∧ ∀ v, v < i → ¬ nC c v → ¬ NWn m (nC c) v) ∨ (cI c1 259 0 = 1 ∧ ∃ v, v < U ∧ ¬ nC c v ∧ nC c1 v)) → ∃ c2, f_X8_findNeeds_L27 n l1 j c1 (nI i) = some (c2, nI U) ∧ NI c2 m U ∧ cd_fr [259, 301] [] c c2 ∧ (∀ v, nC c v → nC c2 v) ∧ ((cI c2 259 0 = 0 ∧ (∀ v, v < U → (nC c2 v ↔ nC c v)) ∧ ∀ v, v < U → ¬ nC c v → ¬ NWn m (nC c) v) ∨ (cI c2 259 0 = 1 ∧ ∃ v, v < U ∧ ¬ nC c v ∧ nC c2 v)) := by
  have hU60 : U ≤ 60 := hc0.1.2.1
  intro d
  induction d with
  | zero =>
    intro j i c1 hi hj h hf hle hst
    obtain ⟨j, rfl⟩ : ∃ q, j = q + 1 := ⟨j - 1, by omega⟩
    obtain rfl : i = U := by omega
    refine ⟨c1, ?_, h, hf, hle, hst⟩
    rw [u_X8_findNeeds_L27, h.1.1, if_pos ((nI_leI (by omega) (by omega)).mpr (Nat.le_refl _))]
  | succ d ih =>
    intro j i c1 hi hj h hf hle hst
    obtain ⟨j, rfl⟩ : ∃ q, j = q + 1 := ⟨j - 1, by omega⟩
    rw [u_X8_findNeeds_L27, h.1.1, if_neg (fun y => absurd ((nI_leI (by omega) (by omega)).mp y) (by omega)), c_unitAt (by omega), bs_some]
    dsimp only
    by_cases h0 : cI c1 301 i = 0
    · rw [if_pos h0, c_unitAt (by omega), bs_some]
      dsimp only
      obtain ⟨v, v1, v2⟩ := c_wants (n := n) (S := nC c1) (u := i) hn h.1 (by omega) (fun u _ => Iff.rfl) h.2.1
      rw [v1, bs_some]
      dsimp only
      rcases v2 with ⟨rfl, hw⟩ | ⟨rfl, hw⟩
      · rw [if_neg ne10, c_unitAt (by omega), bs_some]
        dsimp only
        obtain ⟨g, g1, g2, g3⟩ := h.1.2.2.2.2.2.2.2.2 i (by omega)
        obtain ⟨c2, e1, e2, e3, e4, e5, e6⟩ := h.set (n := n) (by omega) (by omega) g2 g1 hw
        rw [g2, e1, bs_some]
        dsimp only
        unfold f_X8_findNeeds_J82
        rw [nI_1]
        refine ih j (i + 1) c2 (by omega) (by omega) e3 (cd_fr_tr hf e2 (fun _ y => ⟨y, y⟩) (fun _ y => ⟨y, y⟩)) (fun v hv => e6 v (hle v hv)) (Or.inr ⟨e4, ?_⟩)
        exact ⟨i, by omega, fun y => hle i y h0, e5⟩
      · rw [if_pos rfl]
        unfold f_X8_findNeeds_J82
        rw [nI_1]
        refine ih j (i + 1) c1 (by omega) (by omega) h hf hle (hst.imp (fun ⟨s1, s2, s3⟩ => ⟨s1, s2, fun v hv hn' => ?_⟩) (fun y => y))
        by_cases hvi : v = i
        · rw [hvi]
          exact fun y => hw (y.mono h.1 (fun w hw' z => (s2 w hw').mpr z))
        · exact s3 v (by omega) hn'
    · rw [if_neg h0]
      unfold f_X8_findNeeds_J82
      rw [nI_1]
      refine ih j (i + 1) c1 (by omega) (by omega) h hf hle (hst.imp (fun ⟨s1, s2, s3⟩ => ⟨s1, s2, fun v hv hn' => ?_⟩) (fun y => y))
      by_cases hvi : v = i
      · rw [hvi] at hn'
        exact absurd ((s2 i (by omega)).mp h0) hn'
      · exact s3 v (by omega) hn'
/-- all passes -/
theorem c_needL {n : Nat} {m : md_S} {U : Nat} (hn : 1000000 ≤ n) : ∀ (z j k : Nat) (c : cd_S), NI c m U → cI c 259 0 = 1 → zc (cI c 301) U = z → z + k ≤ 60 → z + 1 < j → ∃ c2 k', f_X8_findNeeds_L7 n j c (nI k) = some (c2, k') ∧ NI c2 m U ∧ cd_fr [259, 301] [] c c2 ∧ ∀ v, v < U → (nC c2 v ↔ LF m v) := by
  intro z
  induction z using Nat.strongRecOn with
  | ind z ih =>
  intro j k c h h1 hz hk hj
  obtain ⟨j, rfl⟩ : ∃ q, j = q + 1 := ⟨j - 1, by omega⟩
  have f0 : cd_fr [259, 301] [] c (cSI c 259 0 0) := cd_fr_SI (cd_fr_refl _ _ _) (by decide) (by decide) _ _
  have hn0 : ∀ v, nC (cSI c 259 0 0) v ↔ nC c v := fun v => by unfold nC; rw [cI_SIo (by decide)]
  have h0 : NI (cSI c 259 0 0) m U := ⟨h.1.fr f0, fun x y hx hy hs hy2 => (hn0 x).mpr (h.2.1 x y hx hy hs ((hn0 y).mp hy2)), fun u hu hu2 => h.2.2 u hu ((hn0 u).mp hu2)⟩
  rw [u_X8_findNeeds_L7, if_neg (by rw [h1]; exact ne10), if_neg (show ¬ (60 : Int32) < nI k from fun y => absurd ((nI_ltI (a := 60) (by decide) (by omega)).mp y) (by omega)), bs_some]
  obtain ⟨c2, e1, e2, e3, e4, e5⟩ := c_passL (n := n) (l1 := nI k) hn h0 U n 0 (cSI c 259 0 0) (by omega) (by have := h.1.2.1; omega) h0 (cd_fr_refl _ _ _) (fun _ y => y) (Or.inl ⟨cI_SIe, fun _ _ => Iff.rfl, fun v hv => by omega⟩)
  rw [show f_X8_findNeeds_L27 n (nI k) n (cSI c 259 0 0) 0 = _ from e1, bs_some]
  dsimp only
  rw [nI_1]
  have f2 : cd_fr [259, 301] [] c c2 := cd_fr_tr f0 e3 (fun _ y => ⟨y, y⟩) (fun _ y => ⟨y, y⟩)
  rcases e5 with ⟨s1, s2, s3⟩ | ⟨s1, v, v1, v2, v3⟩
  · obtain ⟨j, rfl⟩ : ∃ q, j = q + 1 := ⟨j - 1, by omega⟩
    rw [u_X8_findNeeds_L7, if_pos s1]
    refine ⟨c2, _, rfl, e2, f2, fun v hv => ⟨fun y => e2.2.2 v hv y, fun y => y (nC c2) ⟨fun u hu hw => ?_, e2.2.1⟩⟩⟩
    have hu' : u < U := by have := h.1.2.2.1; omega
    by_cases hc : nC (cSI c 259 0 0) u
    · exact (s2 u hu').mpr hc
    · exact absurd (hw.mono e2.1 (fun w hw' z => (s2 w hw').mp z)) (s3 u hu' hc)
  · have hlt : zc (cI c2 301) U < z := by
      rw [← hz]
      refine zc_lt U (fun i _ hi => e4 i ((hn0 i).mpr hi)) ⟨v, v1, ?_, v3⟩
      by_cases hc : cI c 301 v = 0
      · exact hc
      · exact absurd ((hn0 v).mpr hc) v2
    obtain ⟨c3, k', g1, g2, g3, g4⟩ := ih (zc (cI c2 301) U) hlt j (k + 1) c2 e2 s1 rfl (by omega) (by omega)
    exact ⟨c3, k', g1, g2, cd_fr_tr f2 g3 (fun _ y => ⟨y, y⟩) (fun _ y => ⟨y, y⟩), g4⟩
theorem c_needs {n : Nat} {c : cd_S} {m : md_S} {U : Nat} (hn : 1000000 ≤ n) (h : NS c m U) (h0 : ∀ u, u < U → cI c 301 u = 0) : ∃ c2, f_X8_findNeeds n c = some (0, c2) ∧ cd_fr [259, 301] [] c c2 ∧ ∀ v, v < U → (cI c2 301 v ≠ 0 ↔ LF m v) := by
  have f0 : cd_fr [259, 301] [] c (cSI c 259 0 1) := cd_fr_SI (cd_fr_refl _ _ _) (by decide) (by decide) _ _
  have hn0 : ∀ v, v < U → ¬ nC (cSI c 259 0 1) v := fun v hv => by unfold nC; rw [cI_SIo (by decide)]; exact fun y => y (h0 v hv)
  obtain ⟨c2, k', e1, e2, e3, e4⟩ := c_needL (n := n) (m := m) (U := U) hn (zc (cI (cSI c 259 0 1) 301) U) n 0 (cSI c 259 0 1) ⟨h.fr f0, fun x y hx hy hs hy2 => absurd hy2 (hn0 y (by have := h.2.2.1; omega)), fun u hu hu2 => absurd hu2 (hn0 u hu)⟩ cI_SIe rfl (by have := zc_le (cI (cSI c 259 0 1) 301) U; have := h.2.1; omega) (by have := zc_le (cI (cSI c 259 0 1) 301) U; have := h.2.1; omega)
  refine ⟨c2, ?_, cd_fr_tr f0 e3 (fun _ y => ⟨y, y⟩) (fun _ y => ⟨y, y⟩), e4⟩
  unfold f_X8_findNeeds
  rw [bs_some, show f_X8_findNeeds_L7 n n (cSI c 259 0 1) 0 = _ from e1, bs_some]
