/-! may, in the class: to the end -/
theorem c_mayOf {n u : Nat} {c : cd_S} (hu : u < 60) : f_X8_mayOf n c (nI u) = some (cAr c 257 0 u, c) := by
  unfold f_X8_mayOf
  rw [if_neg (show ¬ nI u < 0 from nI_nn (by omega)), if_neg (show ¬ (60 : Int32) ≤ nI u from fun z => absurd ((nI_leI (a := 60) (by decide) (by omega)).mp z) (by omega)), c_ld257 hu, bs_some]
/-- what leads nowhere -/
theorem RULe.no {m : md_S} {x b : Int32} {S : Nat → Int32 → Prop} {e : EN} (h : e.1 ≠ 7 ∧ e.1 ≠ 8 ∧ e.1 ≠ 23 ∧ e.1 ≠ 27 ∧ e.1 ≠ 10) : RULe m x S e b := by
  obtain ⟨h1, h2, h3, h4, h5⟩ := h
  refine ⟨fun v _ hb' => ?_, fun q => absurd q h4, fun q => absurd q h5⟩
  rcases bg_no hb' with y | y | y
  · exact absurd y h1
  · exact absurd y h2
  · exact absurd y h3
theorem sp_no : ∀ w, w ∈ spC → w ≠ 7 ∧ w ≠ 8 ∧ w ≠ 23 ∧ w ≠ 27 ∧ w ≠ 10 := by decide
theorem c_sprU {n u : Nat} {c : cd_S} {m : md_S} {x : Int32} (hn : 1000000 ≤ n) (hc : CYC c m) (hm : MYC m) (hu : u < mN m 35) (hS : SV (MAY m x) (VC m c)) (hf1 : cI c 259 0 = 0 ∨ cI c 259 0 = 1) (hy0 : ¬ cAr c 257 0 u = 0) : ∃ c', f_X8_spread n c u x = some (0, c') ∧ FC c c' ∧ (cI c' 259 0 = 0 ∨ cI c' 259 0 = 1) ∧ MVs (MAY m x) (VC m c) (cI c 259 0) (VC m c') (cI c' 259 0) (∀ j, j < mN m 65 → mA m 67 j = nI u → ∀ b, b = 1 ∨ b = 2 → SVs (VC m c) u b → RUL m x (SVs (VC m c)) j b) := by
  have h60 := hm.1.2.1
  have h900 := hm.1.2.2.2.2.1
  obtain ⟨es, ns, b1, b2, b3, b4⟩ := hc.1.2.2.2.2.2.2.1 u hu
  obtain ⟨E, eE'⟩ : ∃ E : List EN, E = es ++ [(28, 0, 0)] := ⟨_, rfl⟩
  rw [← eE'] at b1
  have eV : VC m c u = cAr c 257 0 u := VV_u hu
  have hy := hS.1 u (by omega)
  rw [eV] at hy
  have mem : ∀ i, i < E.length → E.getD i (0, 0, 0) ∈ E := fun i hi => by
    rw [List.getD_eq_getElem?_getD, List.getElem?_eq_getElem hi]
    exact List.getElem_mem hi
  have cases_ : ∀ e, e ∈ E → (∃ j, j < mN m 65 ∧ mA m 67 j = nI u ∧ e = nE m j ∧ ∃ k, WFN m j k) ∨ (e.1 ≠ 7 ∧ e.1 ≠ 8 ∧ e.1 ≠ 23 ∧ e.1 ≠ 27 ∧ e.1 ≠ 10) := fun e he => by
    rw [eE'] at he
    rcases List.mem_append.mp he with he | he
    · rcases b2.1 e he with ⟨j, j1, j2, j3, j4⟩ | h1
      · exact Or.inl ⟨j, (b3 j j1 j2).2, (b3 j j1 j2).1, j3, j4⟩
      · exact Or.inr (sp_no _ h1)
    · rw [List.mem_singleton.mp he]
      exact Or.inr (by decide)
  have hEO : ∀ i, i < E.length → EOm m (E.getD i (0, 0, 0)) := fun i hi => by
    rcases cases_ _ (mem i hi) with ⟨j, j1, j2, j3, k, hw⟩ | h1
    · rw [j3]
      exact ⟨fun q => hw.kj.2.2.2.2.2 q, fun q => hm.2.2.2 j j1 q⟩
    · exact ⟨fun q => absurd q h1.1, fun q => absurd q h1.2.2.2.2⟩
  have hM : ∀ i, i < E.length → ∀ b, b = 1 ∨ b = 2 → hb (cAr c 257 0 u) b → RULe m x (MAY m x) (E.getD i (0, 0, 0)) b := fun i hi b h1 h2 => by
    rcases cases_ _ (mem i hi) with ⟨j, j1, j2, j3, -⟩ | h3
    · rw [j3]
      exact RULe.iff.mp ((MAY.cl m x).2 j u b j1 j2 hu h1 (hS.2 u b (by omega) h1 (by rw [eV]; exact h2)))
    · exact RULe.no h3
  obtain ⟨l1, l2⟩ := b1.len
  obtain ⟨c', k1, k2, k3, k4⟩ := c_sprL (n := n) (u := u) (x := x) (by omega) hm hEO hy hy0 hM E.length n 0 c (by omega) (by omega) hc b1 hS hf1
  refine ⟨c', ?_, k2, k3, k4.imp (fun z j j1 j2 b h1 h2 => ?_)⟩
  · unfold f_X8_spread
    rw [(hc.2 u hu).1, c_mayOf (by omega), bs_some]
    dsimp only
    rw [show f_X8_spread_L12 n u x (cAr c 257 0 u) n c 0 = _ from k1, bs_some]
  · obtain ⟨n1, n2⟩ := b4 j j1 j2
    obtain ⟨-, hcase⟩ := b2.2 j n1 n2
    rcases hcase with hk | hk
    · refine RULe.iff.mpr (RULe.no ?_)
      show mA m 66 j ≠ 7 ∧ mA m 66 j ≠ 8 ∧ mA m 66 j ≠ 23 ∧ mA m 66 j ≠ 27 ∧ mA m 66 j ≠ 10
      rcases hk with hk | hk | hk | hk | hk <;> rw [hk] <;> decide
    · obtain ⟨i, hi, ei⟩ := List.getElem_of_mem (show nE m j ∈ E by rw [eE']; exact List.mem_append_left _ hk)
      have e2 : E.getD i (0, 0, 0) = nE m j := by
        rw [List.getD_eq_getElem?_getD, List.getElem?_eq_getElem hi]
        exact ei
      have := z i (by omega) hi b h1 (by have := h2.2; rw [eV] at this; exact this)
      rw [e2] at this
      exact RULe.iff.mpr this
/-- once over all units -/
theorem c_roundL {n : Nat} {m : md_S} {x l2 : Int32} (hn : 1000000 ≤ n) (hm : MYC m) : ∀ (d j i : Nat) (c : cd_S), i + d = mN m 35 → d < j → CYC c m → SV (MAY m x) (VC m c) → cI c 259 0 = 0 ∨ cI c 259 0 = 1 → ∃ c', f_X8_findMay_L93 n x l2 j c (nI i) = some (c', nI (mN m 35)) ∧ FC c c' ∧ (cI c' 259 0 = 0 ∨ cI c' 259 0 = 1) ∧ MVs (MAY m x) (VC m c) (cI c 259 0) (VC m c') (cI c' 259 0) (∀ u, i ≤ u → u < mN m 35 → ∀ j, j < mN m 65 → mA m 67 j = nI u → ∀ b, b = 1 ∨ b = 2 → SVs (VC m c) u b → RUL m x (SVs (VC m c)) j b) := by
  have h60 := hm.1.2.1
  intro d
  induction d with
  | zero =>
    intro j i c hi hjd hc hS hf1
    obtain ⟨j, rfl⟩ : ∃ q, j = q + 1 := ⟨j - 1, by omega⟩
    refine ⟨c, ?_, FC.refl c, hf1, MVs.refl hS (fun w h1 h2 => by omega)⟩
    rw [u_X8_findMay_L93, hc.1.1, show i = mN m 35 by omega, if_pos ((nI_leI (by omega) (by omega)).mpr (Nat.le_refl _))]
  | succ d ih =>
    intro j i c hi hjd hc hS hf1
    obtain ⟨j, rfl⟩ : ∃ q, j = q + 1 := ⟨j - 1, by omega⟩
    have hi' : i < mN m 35 := by omega
    have eV : VC m c i = cAr c 257 0 i := VV_u hi'
    rw [u_X8_findMay_L93, hc.1.1, if_neg (fun y => absurd ((nI_leI (by omega) (by omega)).mp y) (by omega)), c_mayOf (by omega), bs_some]
    dsimp only
    unfold f_X8_findMay_J125
    rw [nI_1]
    by_cases q : cAr c 257 0 i = 0
    · rw [if_pos q]
      obtain ⟨c', b1, b2, b3, b4⟩ := ih j (i + 1) c (by omega) (by omega) hc hS hf1
      refine ⟨c', b1, b2, b3, b4.imp (fun z u h1 h2 => ?_)⟩
      by_cases q2 : u = i
      · intro jn _ _ b h12 hh
        exfalso
        have := hh.2
        rw [q2, eV, q] at this
        rcases h12 with rfl | rfl <;> exact absurd (by decide) this
      · exact z u (by omega) h2
    · rw [if_neg q, c_unitAt (by omega), bs_some]
      dsimp only
      obtain ⟨c1, k1, k2, k3, k4⟩ := c_sprU (n := n) hn hc hm hi' hS hf1 q
      rw [k1, bs_some]
      dsimp only
      obtain ⟨c', b1, b2, b3, b4⟩ := ih j (i + 1) c1 (by omega) (by omega) (hc.fr k2) k4.1 k3
      refine ⟨c', b1, k2.tr b2, b3, (MVs.tr (K2 := fun V => ∀ u, i + 1 ≤ u → u < mN m 35 → ∀ j, j < mN m 65 → mA m 67 j = nI u → ∀ b, b = 1 ∨ b = 2 → SVs V u b → RUL m x (SVs V) j b) k4 b4).imp (fun z u h1 h2 => ?_)⟩
      by_cases q2 : u = i
      · rw [q2]; exact z.1
      · exact z.2 u (by omega) h2
theorem VC9 (m : md_S) (c : cd_S) (t : Int32) : VC m (cSI c 259 0 t) = VC m c := by
  unfold VC
  rw [cI_SIo (by decide)]
  rfl
theorem c_fixL {n : Nat} {m : md_S} {x : Int32} (hn : 1000000 ≤ n) (hm : MYC m) : ∀ (k j i : Nat) (c : cd_S), 122 - cntV (VC m c) < k → k < j → i ≤ cntV (VC m c) → CYC c m → SV (MAY m x) (VC m c) → cI c 259 0 = 1 → ∃ c' i', f_X8_findMay_L73 n x j c (nI i) = some (c', i') ∧ FC c c' ∧ SV (MAY m x) (VC m c') ∧ MON (VC m c) (VC m c') ∧ ∀ u, u < mN m 35 → ∀ j, j < mN m 65 → mA m 67 j = nI u → ∀ b, b = 1 ∨ b = 2 → SVs (VC m c') u b → RUL m x (SVs (VC m c')) j b := by
  have h60 := hm.1.2.1
  intro k
  induction k with
  | zero => intro j i c h; omega
  | succ k ih =>
    intro j i c hk hj hi hc hS hf
    obtain ⟨j, rfl⟩ : ∃ q, j = q + 2 := ⟨j - 2, by omega⟩
    have hle := cntV_le (VC m c)
    rw [show j + 2 = j + 1 + 1 from rfl, u_X8_findMay_L73, if_neg (show ¬ cI c 259 0 = 0 by rw [hf]; decide), if_neg (show ¬ (122 : Int32) < nI i from fun z => absurd ((nI_ltI (a := 122) (by decide) (by omega)).mp z) (by omega)), bs_some]
    have f0 : FC c (cSI c 259 0 0) := cd_fr_SI (cd_fr_refl _ _ _) (by simp) (by decide) _ _
    have e9 : cI (cSI c 259 0 0) 259 0 = 0 := cI_SIe
    obtain ⟨c1, k1, k2, k3, k4⟩ := c_roundL (n := n) (x := x) (l2 := nI i) hn hm (mN m 35) n 0 (cSI c 259 0 0) (by omega) (by omega) (hc.fr f0) (by rw [VC9]; exact hS) (Or.inl e9)
    rw [VC9, e9] at k4
    rw [show f_X8_findMay_L93 n x (nI i) n (cSI c 259 0 0) 0 = _ from k1, bs_some]
    dsimp only
    rcases k4.2.1 with ⟨c2, c3, c4⟩ | ⟨c2, c3⟩
    · rw [u_X8_findMay_L73, if_pos c3]
      exact ⟨c1, _, rfl, f0.tr k2, k4.1, k4.2.2, fun u hu => by rw [c2]; exact c4 u (by omega) hu⟩
    · rw [nI_1]
      have hle1 := cntV_le (VC m c1)
      obtain ⟨c', i', b1, b2, b3, b4, b5⟩ := ih (j + 1) (i + 1) c1 (by omega) (by omega) (by omega) (hc.fr (f0.tr k2)) k4.1 c2
      exact ⟨c', i', b1, (f0.tr k2).tr b2, b3, fun u b h y => b4 u b h (k4.2.2 u b h y), b5⟩
theorem c_stL {n : Nat} {m : md_S} {x : Int32} (hm : MYC m) : ∀ (d j v : Nat) (c : cd_S), v + d = mN m 35 → d < j → CYC c m → SV (MAY m x) (VC m c) → ∃ c', f_X8_findMay_L15 n x j c (nI v) = some (c', nI (mN m 35)) ∧ FC c c' ∧ SV (MAY m x) (VC m c') ∧ MON (VC m c) (VC m c') ∧ ∀ u, v ≤ u → u < mN m 35 → mA m 36 u = 0 → mA m 39 u = 0 → SVs (VC m c') u (ow m x u 1) := by
  have h60 := hm.1.2.1
  intro d
  induction d with
  | zero =>
    intro j v c hv hjd hc hS
    obtain ⟨j, rfl⟩ : ∃ q, j = q + 1 := ⟨j - 1, by omega⟩
    refine ⟨c, ?_, FC.refl c, hS, fun _ _ _ y => y, fun u h1 h2 => by omega⟩
    rw [u_X8_findMay_L15, hc.1.1, show v = mN m 35 by omega, if_pos ((nI_leI (by omega) (by omega)).mpr (Nat.le_refl _))]
  | succ d ih =>
    intro j v c hv hjd hc hS
    obtain ⟨j, rfl⟩ : ∃ q, j = q + 1 := ⟨j - 1, by omega⟩
    have hv' : v < mN m 35 := by omega
    obtain ⟨d', -, -, -, hd⟩ := hm.dm hv'
    obtain ⟨u1, u2, -⟩ := hc.1.2.2.2.1 v hv'
    rw [u_X8_findMay_L15, hc.1.1, if_neg (fun y => absurd ((nI_leI (by omega) (by omega)).mp y) (by omega)), c_unitAt (by omega), bs_some]
    dsimp only
    unfold f_X8_findMay_J60
    rw [nI_1, u1, u2]
    have skip : ¬ (mA m 36 v = 0 ∧ mA m 39 v = 0) → ∃ c', f_X8_findMay_L15 n x j c (nI (v + 1)) = some (c', nI (mN m 35)) ∧ FC c c' ∧ SV (MAY m x) (VC m c') ∧ MON (VC m c) (VC m c') ∧ ∀ u, v ≤ u → u < mN m 35 → mA m 36 u = 0 → mA m 39 u = 0 → SVs (VC m c') u (ow m x u 1) := fun hno => by
      obtain ⟨c', b1, b2, b3, b4, b5⟩ := ih j (v + 1) c (by omega) (by omega) hc hS
      refine ⟨c', b1, b2, b3, b4, fun u h1 h2 h3 h4 => ?_⟩
      by_cases q : u = v
      · rw [q] at h3 h4; exact absurd ⟨h3, h4⟩ hno
      · exact b5 u (by omega) h2 h3 h4
    by_cases q36 : mA m 36 v = 0
    · by_cases q39 : mA m 39 v = 0
      · rw [if_pos q36, if_pos q39]
        have hM : MAY m x v (ow m x v 1) := (MAY.cl m x).1 v hv' q36 q39
        obtain ⟨c1, k1, k2, -, k4, k5⟩ := c_addP (P := fun _ => True) (n := n) (x := x) (y := 1) hc h60 hd hv' (by decide) hS trivial trivial (fun b h1 h2 => by rw [hb1 h1 h2]; exact hM)
        rw [k1 (fun c => f_X8_findMay_L15 n x j c (nI (v + 1)))]
        obtain ⟨c', b1, b2, b3, b4, b5⟩ := ih j (v + 1) c1 (by omega) (by omega) (hc.fr k2) k4.1
        refine ⟨c', b1, k2.tr b2, b3, fun u b h y => b4 u b h (k4.2.2 u b h y), fun u h1 h2 h3 h4 => ?_⟩
        by_cases q : u = v
        · rw [q]; exact b4 v _ (ow12 m x v 1) (k5 1 (Or.inl rfl) hb11)
        · exact b5 u (by omega) h2 h3 h4
      · rw [if_pos q36, if_neg q39]
        exact skip (fun y => q39 y.2)
    · rw [if_neg q36]
      exact skip (fun y => q36 y.1)
theorem c_fill7L {n : Nat} {c : cd_S} : ∀ (e j i : Nat) (s : cd_S), i + e = 60 → e < j → cd_fr [257] [] c s → (∀ y, y < i → cAr s 257 0 y = 0) → ∃ s', f_J7_fill_257_L5 n 0 60 j s (nI i) = some (s', 60) ∧ cd_fr [257] [] c s' ∧ ∀ y, y < 60 → cAr s' 257 0 y = 0 := by
  intro e
  induction e with
  | zero =>
    intro j i s hi hj hf h
    obtain ⟨j, rfl⟩ : ∃ q, j = q + 1 := ⟨j - 1, by omega⟩
    obtain rfl : i = 60 := by omega
    exact ⟨s, by rw [u_J7_fill_257_L5, if_pos (by decide)]; rfl, hf, h⟩
  | succ e ih =>
    intro j i s hi hj hf h
    obtain ⟨j, rfl⟩ : ∃ q, j = q + 1 := ⟨j - 1, by omega⟩
    rw [u_J7_fill_257_L5, if_neg (show ¬ (60 : Int32) ≤ nI i from fun z => absurd ((nI_leI (a := 60) (by decide) (by omega)).mp z) (by omega)), c_st257 (by omega), bs_some, nI_1]
    refine ih j (i + 1) _ (by omega) (by omega) (cd_fr_SA hf (by simp) _ _ _) (fun y hy => ?_)
    by_cases q : y = i
    · rw [q, cA_SAe]
    · rw [cA_SAi q]; exact h y (by omega)
/-- the class finds all -/
theorem c_findMay {n : Nat} {c : cd_S} {m : md_S} {x : Int32} (hn : 1000000 ≤ n) (hc : CYC c m) (hm : MYC m) : ∃ c', f_X8_findMay n c x = some (0, c') ∧ cd_fr [257, 258, 259, 260] [] c c' ∧ cI c' 260 0 = 1 ∧ ALLV m x (VC m c') := by
  have h60 := hm.1.2.1
  obtain ⟨c1, a1, a2, a3⟩ := c_fill7L (n := n) (c := c) 60 n 0 c (by omega) (by omega) (cd_fr_refl _ _ _) (fun y hy => by omega)
  obtain ⟨c2, e2⟩ : ∃ c2, c2 = cSI c1 258 0 0 := ⟨_, rfl⟩
  have f2 : FC c c2 := by
    rw [e2]
    exact cd_fr_SI (cd_fr_mono a2 (by simp) (by simp)) (by simp) (by decide) _ _
  have z2 : ∀ w, VC m c2 w = 0 := fun w => by
    unfold VC VV
    by_cases q : w < mN m 35
    · rw [if_pos q, e2]
      exact a3 w (by omega)
    · rw [if_neg q, e2, cI_SIe]
      split <;> rfl
  have hS2 : SV (MAY m x) (VC m c2) := ⟨fun w _ => by rw [z2]; decide, fun w b _ h12 hh => by
    rw [z2] at hh
    rcases h12 with rfl | rfl <;> exact absurd (by decide) hh⟩
  obtain ⟨c3, b1, b2, b3, b4, b5⟩ := c_stL (n := n) (x := x) hm (mN m 35) n 0 c2 (by omega) (by omega) (hc.fr f2) hS2
  have f3 : FC c3 (cSI c3 259 0 1) := cd_fr_SI (cd_fr_refl _ _ _) (by simp) (by decide) _ _
  obtain ⟨c4, i', d1, d2, d3, d4, d5⟩ := c_fixL (n := n) (x := x) hn hm 200 n 0 (cSI c3 259 0 1) (by omega) (by omega) (by omega) (hc.fr ((f2.tr b2).tr f3)) (by rw [VC9]; exact b3) cI_SIe
  have f4 : FC c c4 := ((f2.tr b2).tr f3).tr d2
  have eV : VC m (cSI c4 260 0 1) = VC m c4 := by
    unfold VC
    rw [cI_SIo (by decide)]
    rfl
  rw [VC9] at d4
  refine ⟨cSI c4 260 0 1, ?_, cd_fr_SI (cd_fr_mono f4 (by simp) (by simp)) (by simp) (by decide) _ _, cI_SIe, ?_⟩
  · unfold f_X8_findMay f_J7_fill_257
    rw [show f_J7_fill_257_L5 n 0 60 n c 0 = _ from a1, bs_some, bs_some]
    dsimp only
    rw [bs_some, ← e2, show f_X8_findMay_L15 n x n c2 0 = _ from b1, bs_some]
    dsimp only
    rw [bs_some, show f_X8_findMay_L73 n x n (cSI c3 259 0 1) 0 = _ from d1, bs_some]
    dsimp only
    rw [bs_some]
  · rw [eV]
    exact ⟨d3, fun v h1 h2 h3 => d4 v _ (ow12 m x v 1) (b5 v (by omega) h1 h2 h3), fun j q b h1 h2 h3 h4 h5 => d5 q h3 j h1 h2 b h4 h5⟩
