/-! who needs a context: the model's passes -/
theorem nar0 : vp_nar .boolean (0 : Int32) = 0 := by decide
theorem nar1 : vp_nar .boolean (1 : Int32) = 1 := by decide
/-- the state of the model's search, from m0 -/
def MN (m m1 : md_S) (U : Nat) : Prop := md_fr [47] m m1 ∧ ∀ u, u < U → nM m1 u → LF m u
theorem nM_S {m : md_S} {u v : Nat} {x : Int32} : nM (mSA m 47 u x) v ↔ (if v = u then x ≠ 0 else nM m v) := by
  unfold nM
  by_cases h : v = u
  · rw [if_pos h, h, mA_SAe]
  · rw [if_neg h, mA_SAi h]
theorem m_ndL {n : Nat} {m m0 : md_S} {U : Nat} (hn : 5000 ≤ n) (h : MS m U) (h0 : MN m m0 U) : ∀ (d j i : Nat) (m1 : md_S) (l : Int32), i + d = mN m 65 → d < j → MN m m1 U → (∀ v, v < U → nM m0 v → nM m1 v) → ((l = 0 ∧ (∀ v, v < U → (nM m1 v ↔ nM m0 v)) ∧ ∀ x v, x < i → v < U → mA m 67 x = nI v → HE m (nM m0) (nE m x) → nM m0 v) ∨ (l = 1 ∧ ∃ v, v < U ∧ ¬ nM m0 v ∧ nM m1 v)) → ∃ m2 l', f_X12_findNeeds_L33 n j m1 l (nI i) = some (m2, l', nI (mN m 65)) ∧ MN m m2 U ∧ (∀ v, v < U → nM m0 v → nM m2 v) ∧ ((l' = 0 ∧ (∀ v, v < U → (nM m2 v ↔ nM m0 v)) ∧ ∀ x v, x < mN m 65 → v < U → mA m 67 x = nI v → HE m (nM m0) (nE m x) → nM m0 v) ∨ (l' = 1 ∧ ∃ v, v < U ∧ ¬ nM m0 v ∧ nM m2 v)) := by
  have hh := h
  obtain ⟨a1, a2, a3, a4, a5, a6, a7, a8⟩ := hh
  intro d
  induction d with
  | zero =>
    intro j i m1 l hi hj h1 hle hst
    obtain ⟨j, rfl⟩ : ∃ q, j = q + 1 := ⟨j - 1, by omega⟩
    obtain rfl : i = mN m 65 := by omega
    refine ⟨m1, l, ?_, h1, hle, hst⟩
    rw [u_X12_findNeeds_L33, md_frI h1.1 (by decide), a4, if_pos ((nI_leI (by omega) (by omega)).mpr (Nat.le_refl _))]
  | succ d ih =>
    intro j i m1 l hi hj h1 hle hst
    obtain ⟨j, rfl⟩ : ∃ q, j = q + 1 := ⟨j - 1, by omega⟩
    obtain ⟨q, q1, q2⟩ := a6 i (by omega)
    rw [u_X12_findNeeds_L33, md_frI h1.1 (by decide), a4, if_neg (fun y => absurd ((nI_leI (by omega) (by omega)).mp y) (by omega)), m_ld67 (by omega), bs_some, md_frA h1.1 (by decide), q2, m_ld47 (by omega), bs_some]
    have keep : (l = 0 → (∀ v, v < U → (nM m1 v ↔ nM m0 v)) → HE m (nM m0) (nE m i) → nM m0 q) → (l = 0 ∧ (∀ v, v < U → (nM m1 v ↔ nM m0 v)) ∧ ∀ x v, x < i + 1 → v < U → mA m 67 x = nI v → HE m (nM m0) (nE m x) → nM m0 v) ∨ (l = 1 ∧ ∃ v, v < U ∧ ¬ nM m0 v ∧ nM m1 v) := fun hk => hst.imp (fun ⟨s1, s2, s3⟩ => ⟨s1, s2, fun x v hx hv h67 hh => by
      by_cases hxi : x = i
      · rw [hxi] at h67 hh
        have : q = v := (nI_eq (by omega) (by omega)).mp (q2.symm.trans h67)
        rw [← this]; exact hk s1 s2 hh
      · exact s3 x v (by omega) hv h67 hh⟩) (fun y => y)
    by_cases hq : mA m1 47 q = 0
    · rw [if_pos hq]
      obtain ⟨x, x1, x2⟩ := m_nodeN (n := n) (i := i) (by omega) (by decide) h1.1 h (by omega)
      rw [x1, bs_some]
      dsimp only
      rcases x2 with ⟨rfl, hx⟩ | ⟨rfl, hx⟩
      · rw [if_neg ne10, m_st47 (by omega), bs_some, nar1]
        unfold f_X12_findNeeds_J74
        rw [nI_1]
        have hlf : LF m q := fun S hS => hS.1 q (by omega) ⟨i, by omega, q2, hx.mono (a7 i (by omega)) (fun v hv hn' => h1.2 v (by omega) hn' S hS) (by omega)⟩
        refine ih j (i + 1) (mSA m1 47 q 1) 1 (by omega) (by omega) ⟨md_fr_SA h1.1 (by decide) _ _, fun u hu hu2 => ?_⟩ (fun v hv hv2 => ?_) (Or.inr ⟨rfl, q, by omega, fun y => hle q (by omega) y hq, nM_S.mpr (by rw [if_pos rfl]; decide)⟩)
        · by_cases huq : u = q
          · rw [huq]; exact hlf
          · have := nM_S.mp hu2
            rw [if_neg huq] at this
            exact h1.2 u hu this
        · rw [nM_S]
          split
          · decide
          · exact hle v hv hv2
      · rw [if_pos rfl]
        unfold f_X12_findNeeds_J74
        rw [nI_1]
        refine ih j (i + 1) m1 l (by omega) (by omega) h1 hle (keep (fun _ s2 hh => ?_))
        exact absurd (hh.mono (a7 i (by omega)) (fun v hv z => (s2 v (by omega)).mpr z) (by omega)) hx
    · rw [if_neg hq]
      unfold f_X12_findNeeds_J74
      rw [nI_1]
      exact ih j (i + 1) m1 l (by omega) (by omega) h1 hle (keep (fun _ s2 _ => (s2 q (by omega)).mp hq))
theorem m_grL1 {n : Nat} {m : md_S} {U u : Nat} (h : MS m U) (hu : u < U) : ∀ (d j i : Nat) (m1 : md_S) (l : Int32), i + d = U → d < j → MN m m1 U → (l = 0 ∨ l = 1) → (¬ nM m1 u → ∀ v, v < i → nM m1 v → ¬ SG m u v) → ∃ m2 l' i', f_X12_findNeeds_L92 n (nI u) j m1 l (nI i) = some (m2, l', i') ∧ ((m2 = m1 ∧ l' = l ∧ (¬ nM m1 u → ∀ v, v < U → nM m1 v → ¬ SG m u v)) ∨ (MN m m2 U ∧ l' = 1 ∧ ¬ nM m1 u ∧ nM m2 u ∧ ∀ v, v ≠ u → (nM m2 v ↔ nM m1 v))) := by
  have hh := h
  obtain ⟨a1, a2, a3, a4, a5, a6, a7, a8⟩ := hh
  intro d
  induction d with
  | zero =>
    intro j i m1 l hi hj h1 hl hst
    obtain ⟨j, rfl⟩ : ∃ q, j = q + 1 := ⟨j - 1, by omega⟩
    obtain rfl : i = U := by omega
    refine ⟨m1, l, nI i, ?_, Or.inl ⟨rfl, rfl, hst⟩⟩
    rw [u_X12_findNeeds_L92, md_frI h1.1 (by decide), a1, if_pos ((nI_leI (by omega) (by omega)).mpr (Nat.le_refl _))]
  | succ d ih =>
    intro j i m1 l hi hj h1 hl hst
    obtain ⟨j, rfl⟩ : ∃ q, j = q + 1 := ⟨j - 1, by omega⟩
    rw [u_X12_findNeeds_L92, md_frI h1.1 (by decide), a1, if_neg (fun y => absurd ((nI_leI (by omega) (by omega)).mp y) (by omega)), m_ld47 (by omega), bs_some]
    by_cases hu0 : mA m1 47 u = 0
    · rw [if_pos hu0, m_ld47 (by omega), bs_some]
      have same : mSA m1 47 u 0 = m1 := by
        refine Prod.ext rfl (Prod.ext rfl (Prod.ext ?_ rfl))
        funext k
        show (if k = 47 then upd (m1.2.2.1 47) u 0 else m1.2.2.1 k) = m1.2.2.1 k
        by_cases hk : k = 47
        · rw [if_pos hk, hk]
          funext x
          have : upd (m1.2.2.1 47) u 0 x = (if x = u then 0 else m1.2.2.1 47 x) := rfl
          rw [this]
          by_cases hx : x = u
          · rw [if_pos hx, hx]; exact hu0.symm
          · rw [if_neg hx]
        · rw [if_neg hk]
      have cont : ¬ (nM m1 i ∧ SG m u i) → ∃ m2 l' i', f_X12_findNeeds_J136 n (nI u) (f_X12_findNeeds_L92 n (nI u) j) m1 l (nI i) (nI u) = some (m2, l', i') ∧ ((m2 = m1 ∧ l' = l ∧ (¬ nM m1 u → ∀ v, v < U → nM m1 v → ¬ SG m u v)) ∨ (MN m m2 U ∧ l' = 1 ∧ ¬ nM m1 u ∧ nM m2 u ∧ ∀ v, v ≠ u → (nM m2 v ↔ nM m1 v))) := by
        intro hc
        unfold f_X12_findNeeds_J136 f_X12_findNeeds_J137
        rw [m_st47 (by omega), bs_some, nar0, same]
        have hst' : ¬ nM m1 u → ∀ v, v < i + 1 → nM m1 v → ¬ SG m u v := fun y v hv hv2 hs => by
          by_cases hvi : v = i
          · rw [hvi] at hv2 hs; exact hc ⟨hv2, hs⟩
          · exact hst y v (by omega) hv2 hs
        have key := ih j (i + 1) m1 l (by omega) (by omega) h1 hl hst'
        rcases hl with rfl | rfl
        · rw [if_pos rfl, m_ld47 (by omega), bs_some, if_pos hu0]
          unfold f_X12_findNeeds_J156
          rw [nI_1]; exact key
        · rw [if_neg ne10]
          unfold f_X12_findNeeds_J151 f_X12_findNeeds_J156
          rw [nI_1]; exact key
      by_cases hi0 : mA m1 47 i = 0
      · rw [if_pos hi0]
        exact cont (fun y => y.1 hi0)
      · rw [if_neg hi0]
        obtain ⟨x, x1, x2⟩ := m_areOf (n := n) (u := u) (v := i) (by decide) h1.1 (by omega) (by omega)
        rw [x1, bs_some]
        dsimp only
        rcases x2 with ⟨rfl, hx⟩ | ⟨rfl, hx⟩
        · rw [if_neg ne10]
          have hlf : LF m u := (h1.2 i (by omega) hi0).g (by omega) (by omega) hx
          have hM : MN m (mSA m1 47 u 1) U := ⟨md_fr_SA h1.1 (by decide) _ _, fun w hw hw2 => by
            by_cases hwu : w = u
            · rw [hwu]; exact hlf
            · have := nM_S.mp hw2
              rw [if_neg hwu] at this
              exact h1.2 w hw this⟩
          have hnu : nM (mSA m1 47 u 1) u := nM_S.mpr (by rw [if_pos rfl]; decide)
          have hend : ∀ k : Nat, f_X12_findNeeds_L92 n (nI u) j (mSA m1 47 u 1) 1 (nI k) = some (mSA m1 47 u 1, 1, nI k) := fun k => by
            obtain ⟨j, rfl⟩ : ∃ q, j = q + 1 := ⟨j - 1, by omega⟩
            rw [u_X12_findNeeds_L92, m_ld47 (by omega), bs_some, if_neg hnu]
            split <;> rfl
          unfold f_X12_findNeeds_J137
          rw [m_st47 (by omega), bs_some, nar1]
          refine ⟨mSA m1 47 u 1, 1, nI (i + 1), ?_, Or.inr ⟨hM, rfl, fun y => y hu0, hnu, fun v hv => by rw [nM_S, if_neg hv]⟩⟩
          rcases hl with rfl | rfl
          · rw [if_pos rfl, m_ld47 (by omega), bs_some, if_neg hnu]
            unfold f_X12_findNeeds_J151 f_X12_findNeeds_J156
            rw [nI_1]; exact hend _
          · rw [if_neg ne10]
            unfold f_X12_findNeeds_J151 f_X12_findNeeds_J156
            rw [nI_1]; exact hend _
        · rw [if_pos rfl]
          exact cont (fun y => hx y.2)
    · rw [if_neg hu0]
      exact ⟨m1, l, _, rfl, Or.inl ⟨rfl, rfl, fun y => absurd hu0 y⟩⟩
theorem m_grL2 {n : Nat} {m m0 : md_S} {U : Nat} (hn : 5000 ≤ n) (h : MS m U) : ∀ (d j i : Nat) (m1 : md_S) (l : Int32), i + d = U → d < j → MN m m1 U → (∀ v, v < U → nM m0 v → nM m1 v) → ((l = 0 ∧ (∀ v, v < U → (nM m1 v ↔ nM m0 v)) ∧ ∀ u, u < i → ¬ nM m0 u → ∀ v, v < U → nM m0 v → ¬ SG m u v) ∨ (l = 1 ∧ ∃ v, v < U ∧ ¬ nM m0 v ∧ nM m1 v)) → ∃ m2 l', f_X12_findNeeds_L82 n j m1 l (nI i) = some (m2, l', nI U) ∧ MN m m2 U ∧ (∀ v, v < U → nM m0 v → nM m2 v) ∧ (∀ v, v < U → nM m1 v → nM m2 v) ∧ ((l' = 0 ∧ (∀ v, v < U → (nM m2 v ↔ nM m0 v)) ∧ ∀ u, u < U → ¬ nM m0 u → ∀ v, v < U → nM m0 v → ¬ SG m u v) ∨ (l' = 1 ∧ ∃ v, v < U ∧ ¬ nM m0 v ∧ nM m2 v)) := by
  have hU60 := h.2.1
  intro d
  induction d with
  | zero =>
    intro j i m1 l hi hj h1 hle hst
    obtain ⟨j, rfl⟩ : ∃ q, j = q + 1 := ⟨j - 1, by omega⟩
    obtain rfl : i = U := by omega
    refine ⟨m1, l, ?_, h1, hle, fun _ _ y => y, hst⟩
    rw [u_X12_findNeeds_L82, md_frI h1.1 (by decide), h.1, if_pos ((nI_leI (by omega) (by omega)).mpr (Nat.le_refl _))]
  | succ d ih =>
    intro j i m1 l hi hj h1 hle hst
    obtain ⟨j, rfl⟩ : ∃ q, j = q + 1 := ⟨j - 1, by omega⟩
    have hl : l = 0 ∨ l = 1 := hst.imp (fun y => y.1) (fun y => y.1)
    obtain ⟨m2, l', i', e1, e2⟩ := m_grL1 (n := n) (u := i) h (by omega) U n 0 m1 l (by omega) (by omega) h1 hl (fun _ v hv => by omega)
    rw [u_X12_findNeeds_L82, md_frI h1.1 (by decide), h.1, if_neg (fun y => absurd ((nI_leI (by omega) (by omega)).mp y) (by omega)), show f_X12_findNeeds_L92 n (nI i) n m1 l 0 = _ from e1, bs_some]
    dsimp only
    rw [nI_1]
    rcases e2 with ⟨rfl, rfl, e3⟩ | ⟨e3, rfl, e4, e5, e6⟩
    · refine ih j (i + 1) m2 l' (by omega) (by omega) h1 hle (hst.imp (fun ⟨s1, s2, s3⟩ => ⟨s1, s2, fun u hu hnu v hv hv2 => ?_⟩) (fun y => y))
      by_cases hui : u = i
      · rw [hui] at hnu ⊢
        exact e3 (fun y => hnu ((s2 i (by omega)).mp y)) v hv ((s2 v hv).mpr hv2)
      · exact s3 u (by omega) hnu v hv hv2
    · have h12 : ∀ v, nM m1 v → nM m2 v := fun v hv2 => by
        by_cases hvi : v = i
        · rw [hvi]; exact e5
        · exact (e6 v hvi).mpr hv2
      obtain ⟨m3, l3, q1, q2, q3, q4, q5⟩ := ih j (i + 1) m2 1 (by omega) (by omega) e3 (fun v hv hv2 => h12 v (hle v hv hv2)) (Or.inr ⟨rfl, i, by omega, fun y => e4 (hle i (by omega) y), e5⟩)
      exact ⟨m3, l3, q1, q2, q3, fun v hv hv2 => q4 v hv (h12 v hv2), q5⟩
theorem m_needL {n : Nat} {m : md_S} {U : Nat} (hn : 5000 ≤ n) (h : MS m U) : ∀ (z j : Nat) (m0 : md_S), MN m m0 U → zc (mA m0 47) U = z → z + 1 < j → ∃ m2 l', f_X12_findNeeds_L25 n j m0 1 = some (m2, l') ∧ md_fr [47] m m2 ∧ ∀ v, v < U → (nM m2 v ↔ LF m v) := by
  intro z
  induction z using Nat.strongRecOn with
  | ind z ih =>
  intro j m0 h0 hz hj
  obtain ⟨j, rfl⟩ : ∃ q, j = q + 1 := ⟨j - 1, by omega⟩
  have hh := h
  obtain ⟨a1, a2, a3, a4, a5, a6, a7, a8⟩ := hh
  rw [u_X12_findNeeds_L25, if_neg ne10]
  obtain ⟨m1, l1, e1, e2, e3, e4⟩ := m_ndL (n := n) (m0 := m0) hn h h0 (mN m 65) n 0 m0 0 (by omega) (by omega) h0 (fun _ _ y => y) (Or.inl ⟨rfl, fun _ _ => Iff.rfl, fun x v hx => by omega⟩)
  rw [show f_X12_findNeeds_L33 n n m0 0 0 = _ from e1, bs_some]
  dsimp only
  have hl1 : l1 = 0 ∨ l1 = 1 := e4.imp (fun y => y.1) (fun y => y.1)
  obtain ⟨m2, l2, g1, g2, g3, g5, g4⟩ := m_grL2 (n := n) (m0 := m0) hn h U n 0 m1 l1 (by omega) (by omega) e2 e3 (e4.imp (fun ⟨s1, s2, _⟩ => ⟨s1, s2, fun u hu => by omega⟩) (fun y => y))
  rw [show f_X12_findNeeds_L82 n n m1 l1 0 = _ from g1, bs_some]
  dsimp only
  rcases g4 with ⟨rfl, s2, s3⟩ | ⟨rfl, v, v1, v2, v3⟩
  · obtain ⟨j, rfl⟩ : ∃ q, j = q + 1 := ⟨j - 1, by omega⟩
    rw [u_X12_findNeeds_L25, if_pos rfl]
    refine ⟨m2, 0, rfl, g2.1, fun v hv => ⟨fun y => g2.2 v hv y, fun y => y (nM m2) ⟨fun u hu hw => ?_, fun x y hx hy hs hy2 => ?_⟩⟩⟩
    · obtain ⟨x, x1, x2, x3⟩ := hw
      have hx0 : HE m (nM m0) (nE m x) := x3.mono (a7 x x1) (fun v hv z => (s2 v (by omega)).mp z) (by omega)
      rcases e4 with ⟨t1, t2, t3⟩ | ⟨t1, w, w1, w2, w3⟩
      · exact (s2 u (by omega)).mpr (t3 x u x1 (by omega) x2 hx0)
      · exact absurd ((s2 w w1).mp (g5 w w1 w3)) w2
    · by_cases hc : nM m0 x
      · exact (s2 x (by omega)).mpr hc
      · exact absurd hs (s3 x (by omega) hc y (by omega) ((s2 y (by omega)).mp hy2))
  · have hlt : zc (mA m2 47) U < z := by
      rw [← hz]
      refine zc_lt U (fun i hi hi2 => g3 i hi hi2) ⟨v, v1, ?_, v3⟩
      by_cases hc : mA m0 47 v = 0
      · exact hc
      · exact absurd hc v2
    exact ih (zc (mA m2 47) U) hlt j m2 g2 rfl (by omega)
theorem m_zL {n : Nat} {m : md_S} {U : Nat} (hU : mI m 35 = nI U) (hU60 : U ≤ 60) : ∀ (d j i : Nat) (m1 : md_S), i + d = U → d < j → md_fr [47] m m1 → (∀ v, v < i → mA m1 47 v = 0) → ∃ m2, f_X12_findNeeds_L2 n j m1 (nI i) = some (m2, nI U) ∧ md_fr [47] m m2 ∧ ∀ v, v < U → mA m2 47 v = 0 := by
  intro d
  induction d with
  | zero =>
    intro j i m1 hi hj hf h
    obtain ⟨j, rfl⟩ : ∃ q, j = q + 1 := ⟨j - 1, by omega⟩
    obtain rfl : i = U := by omega
    refine ⟨m1, ?_, hf, h⟩
    rw [u_X12_findNeeds_L2, md_frI hf (by decide), hU, if_pos ((nI_leI (by omega) (by omega)).mpr (Nat.le_refl _))]
  | succ d ih =>
    intro j i m1 hi hj hf h
    obtain ⟨j, rfl⟩ : ∃ q, j = q + 1 := ⟨j - 1, by omega⟩
    rw [u_X12_findNeeds_L2, md_frI hf (by decide), hU, if_neg (fun y => absurd ((nI_leI (by omega) (by omega)).mp y) (by omega)), m_st47 (by omega), bs_some, nar0, nI_1]
    refine ih j (i + 1) _ (by omega) (by omega) (md_fr_SA hf (by decide) _ _) (fun v hv => ?_)
    by_cases hvi : v = i
    · rw [hvi, mA_SAe]
    · rw [mA_SAi hvi]; exact h v (by omega)
theorem m_needs {n : Nat} {m : md_S} {U : Nat} (hn : 5000 ≤ n) (h : MS m U) : ∃ m2, f_X12_findNeeds n m = some (0, m2) ∧ md_fr [47] m m2 ∧ ∀ v, v < U → (mA m2 47 v ≠ 0 ↔ LF m v) := by
  have hU60 := h.2.1
  obtain ⟨m1, e1, e2, e3⟩ := m_zL (n := n) h.1 hU60 U n 0 m (by omega) (by omega) (md_fr_refl _ _) (fun v hv => by omega)
  obtain ⟨m2, l', g1, g2, g3⟩ := m_needL (n := n) hn h (zc (mA m1 47) U) n m1 ⟨e2, fun u hu hu2 => absurd (e3 u hu) hu2⟩ rfl (by have := zc_le (mA m1 47) U; omega)
  refine ⟨m2, ?_, g2, g3⟩
  unfold f_X12_findNeeds
  rw [show f_X12_findNeeds_L2 n n m 0 = _ from e1, bs_some]
  dsimp only
  rw [g1, bs_some]
