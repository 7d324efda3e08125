/-! patterns kept: Rights of the class, patterns of the model -/
def Rfr (c d : cd_S) (r : Nat) : Prop := (∀ x, x ≠ r → cI d 162 x = cI c 162 x ∧ cI d 163 x = cI c 163 x ∧ cJ d 160 x = cJ c 160 x ∧ ∀ i, cLr d 161 x i = cLr c 161 x i) ∧ cd_fr [160, 161, 162, 163] [] c d
def Mfr (m k : md_S) (p : Nat) : Prop := (∀ x, x ≠ p → mA k 18 x = mA m 18 x ∧ mA k 19 x = mA m 19 x ∧ ∀ i, i < 5 → mL k 17 (5 * x + i) = mL m 17 (5 * x + i)) ∧ md_fr [17, 18, 19] m k
theorem Rfr.refl (c : cd_S) (r : Nat) : Rfr c c r := ⟨fun _ _ => ⟨rfl, rfl, rfl, fun _ => rfl⟩, cd_fr_refl _ _ _⟩
theorem Rfr.tr {c d e : cd_S} {r : Nat} (h : Rfr c d r) (h2 : Rfr d e r) : Rfr c e r := ⟨fun x hx => by
  obtain ⟨a1, a2, a3, a4⟩ := h.1 x hx
  obtain ⟨b1, b2, b3, b4⟩ := h2.1 x hx
  exact ⟨b1.trans a1, b2.trans a2, b3.trans a3, fun i => (b4 i).trans (a4 i)⟩, cd_fr_tr h.2 h2.2 (fun _ z => ⟨z, z⟩) (fun _ z => ⟨z, z⟩)⟩
theorem RP.keep {c d : cd_S} {m k : md_S} {r p r0 p0 : Nat} (h : RP c m r p) (hc : Rfr c d r0) (hm : Mfr m k p0) (hr : r ≠ r0) (hp : p ≠ p0) : RP d k r p := by
  obtain ⟨a, tl, a1, a2, a3, a4, a5, a6, a7⟩ := h
  obtain ⟨c1, c2, c3, c4⟩ := hc.1 r hr
  obtain ⟨m1, m2, m3⟩ := hm.1 p hp
  exact ⟨a, tl, a1, a2, c1.trans a3, c2.trans a4, m1.trans a5, m2.trans a6, fun i hi => by rw [c4, m3 i (by omega)]; exact a7 i hi⟩
theorem RP.fr {c d : cd_S} {m k : md_S} {r p : Nat} {L R M : List Nat} (h : RP c m r p) (hc : cd_fr L R c d) (hm : md_fr M m k) (h1 : ∀ x, x ∈ [161, 162, 163] → x ∉ L) (h2 : ∀ x, x ∈ [17, 18, 19] → x ∉ M) : RP d k r p := by
  obtain ⟨a, tl, a1, a2, a3, a4, a5, a6, a7⟩ := h
  exact ⟨a, tl, a1, a2, (cd_frI hc (h1 _ (by decide)) (by decide) _).trans a3, (cd_frI hc (h1 _ (by decide)) (by decide) _).trans a4, (md_frA hm (h2 _ (by decide)) _).trans a5, (md_frA hm (h2 _ (by decide)) _).trans a6, fun i hi => by rw [cd_frL hc (h1 _ (by decide)) (by decide), md_frL hm (h2 _ (by decide))]; exact a7 i hi⟩
/-- Right.take -/
theorem c_take {n : Nat} {c : cd_S} {r r2 : Nat} (hn : 100 ≤ n) (hne : r ≠ r2) : ∃ d, f_X5_take n c r r2 = some (0, d) ∧ Rfr c d r ∧ cI d 162 r = cI c 162 r2 ∧ cI d 163 r = cI c 163 r2 ∧ cJ d 160 r = cJ c 160 r2 ∧ ∀ i, i < 5 → cLr d 161 r i = cLr c 161 r2 i := by
  have lp : ∀ (k j i : Nat) (s : cd_S), i + k = 5 → k < j → ∃ d, f_X5_take_L26 n r r2 j s (nI i) = some (d, nI 5) ∧ (∀ x, x ≠ r → ∀ y, cLr d 161 x y = cLr s 161 x y) ∧ (∀ y, y < i → cLr d 161 r y = cLr s 161 r y) ∧ (∀ y, i ≤ y → y < 5 → cLr d 161 r y = cLr s 161 r2 y) ∧ cd_fr [161] [] s d := by
    intro k
    induction k with
    | zero =>
      intro j i s hi hj
      obtain ⟨j, rfl⟩ : ∃ m, j = m + 1 := ⟨j - 1, by omega⟩
      obtain rfl : i = 5 := by omega
      refine ⟨s, ?_, fun _ _ _ => rfl, fun _ _ => rfl, fun y h1 h2 => by omega, cd_fr_refl _ _ _⟩
      rw [u_X5_take_L26, if_pos (by decide)]
    | succ k ih =>
      intro j i s hi hj
      obtain ⟨j, rfl⟩ : ∃ m, j = m + 1 := ⟨j - 1, by omega⟩
      obtain ⟨d, e1, e2, e3, e4, e5⟩ := ih j (i + 1) (cSL s 161 r i (cLr s 161 r2 i)) (by omega) (by omega)
      refine ⟨d, ?_, fun x hx y => ?_, fun y hy => ?_, fun y h1 h2 => ?_, cd_fr_tr (cd_fr_SL (cd_fr_refl _ _ _) (by decide) _ _ _) e5 (fun _ z => ⟨z, z⟩) (fun _ z => ⟨z, z⟩)⟩
      · rw [u_X5_take_L26, if_neg (show ¬ (5 : Int32) ≤ nI i from fun z => absurd ((nI_leI (a := 5) (by decide) (by omega)).mp z) (by omega)), c_ld161 (by omega), bs_some, c_st161 (by omega), bs_some, nI_1, e1]
      · rw [e2 x hx y, cL_SL, if_neg (fun z => hx z.2)]
      · rw [e3 y (by omega), cL_SLi (by omega)]
      · by_cases hy : y = i
        · subst hy
          rw [e3 y (by omega), cL_SLe]
        · rw [e4 y (by omega) h2, cL_SL, if_neg (fun z => hne z.2.symm)]
  obtain ⟨d, e1, e2, e3, e4, e5⟩ := lp 5 n 0 (cSI (cSI (cSJ c 160 r (cJ c 160 r2)) 163 r (cI c 163 r2)) 162 r (cI c 162 r2)) rfl (by omega)
  refine ⟨d, ?_, ⟨fun x hx => ⟨?_, ?_, ?_, fun i => ?_⟩, ?_⟩, ?_, ?_, ?_, fun i hi => ?_⟩
  · unfold f_X5_take
    rw [bs_some, bs_some, bs_some, cI_SJ, cI_SIo (by decide), cI_SJ, show f_X5_take_L26 n r r2 n (cSI (cSI (cSJ c 160 r (cJ c 160 r2)) 163 r (cI c 163 r2)) 162 r (cI c 162 r2)) 0 = _ from e1, bs_some]
  · rw [cd_frI e5 (by decide) (by decide), cI_SIi hx, cI_SIo (by decide), cI_SJ]
  · rw [cd_frI e5 (by decide) (by decide), cI_SIo (by decide), cI_SIi hx, cI_SJ]
  · rw [cd_frJ e5 (by decide) (by decide), cJ_SI, cJ_SI, cJ_SJi hx]
  · rw [e2 x hx i]; rfl
  · exact cd_fr_tr (cd_fr_SI (cd_fr_SI (cd_fr_SJ (cd_fr_refl _ [160, 161, 162, 163] []) (by decide) _ _) (by decide) (by decide) _ _) (by decide) (by decide) _ _) e5 (fun _ z => ⟨z, fun y => z (by simp at y; simp [y])⟩) (fun _ z => ⟨z, z⟩)
  · rw [cd_frI e5 (by decide) (by decide), cI_SIe]
  · rw [cd_frI e5 (by decide) (by decide), cI_SIo (by decide), cI_SIe]
  · rw [cd_frJ e5 (by decide) (by decide), cJ_SI, cJ_SI, cJ_SJe]
  · rw [e4 i (Nat.zero_le _) hi]
    rfl
/-- Words.copyPattern: the cells of the row of patterns become a Right -/
theorem c_copy {n : Nat} {c : cd_S} {r kept cnt tl : Nat} {A Z codes : List Int64} (hn : 100 ≤ n) (hr : RowOk c 1) (hx : cJ c 330 0 = lN kept) (hL : rL c 1 = A ++ (lN cnt :: lN tl :: codes) ++ Z) (hA : A.length = kept) (hk : kept < 1000000) (hc : codes.length = cnt) (hc5 : cnt ≤ 5) (ht : tl ≤ 2) : ∃ d, f_X10_copyPattern n c r = some (0, d) ∧ Rfr c d r ∧ cI d 162 r = nI cnt ∧ cI d 163 r = nI tl ∧ cJ d 160 r = cJ c 160 r ∧ ∀ i, i < cnt → cLr d 161 r i = codes.getD i 0 := by
  have g0 : (rL c 1).getD kept 0 = lN cnt := by
    rw [hL, List.append_assoc, List.getD_eq_getElem?_getD, List.getElem?_append_right (by omega), hA, Nat.sub_self]; rfl
  have g1 : (rL c 1).getD (kept + 1) 0 = lN tl := by
    rw [hL, List.append_assoc, List.getD_eq_getElem?_getD, List.getElem?_append_right (by omega), hA, Nat.add_sub_cancel_left]; rfl
  have g2 : ∀ i, i < cnt → (rL c 1).getD (kept + 2 + i) 0 = codes.getD i 0 := fun i hi => by
    rw [hL, List.append_assoc, List.getD_eq_getElem?_getD, List.getElem?_append_right (by omega), hA, show kept + 2 + i - kept = i + 1 + 1 by omega, List.cons_append, List.cons_append, List.getElem?_cons_succ, List.getElem?_cons_succ, List.getElem?_append_left (by omega), List.getD_eq_getElem?_getD]
  have lp : ∀ (k j i : Nat) (s : cd_S), i + k = cnt → k < j → cI s 162 r = nI i → RowOk s 1 → rL s 1 = rL c 1 → ∃ d, f_X10_copyPattern_L27 n r (nI kept) j s (nI i) = some (d, nI cnt) ∧ (∀ x, x ≠ r → cI d 162 x = cI s 162 x ∧ ∀ y, cLr d 161 x y = cLr s 161 x y) ∧ cI d 162 r = nI cnt ∧ (∀ y, y < i → cLr d 161 r y = cLr s 161 r y) ∧ (∀ y, i ≤ y → y < cnt → cLr d 161 r y = codes.getD y 0) ∧ cd_fr [161, 162] [] s d := by
    intro k
    induction k with
    | zero =>
      intro j i s hi hj h162 hro hrl
      obtain ⟨j, rfl⟩ : ∃ m, j = m + 1 := ⟨j - 1, by omega⟩
      obtain rfl : i = cnt := by omega
      refine ⟨s, ?_, fun _ _ => ⟨rfl, fun _ => rfl⟩, h162, fun _ _ => rfl, fun y h1 h2 => by omega, cd_fr_refl _ _ _⟩
      rw [u_X10_copyPattern_L27, c_atL hro (by omega), bs_some, hrl, g0, lN_i]
      dsimp only
      rw [if_pos ((nI_leI (by omega) (by omega)).mpr (Nat.le_refl _))]
    | succ k ih =>
      intro j i s hi hj h162 hro hrl
      obtain ⟨j, rfl⟩ : ∃ m, j = m + 1 := ⟨j - 1, by omega⟩
      obtain ⟨d, e1, e2, e3, e4, e5, e6⟩ := ih j (i + 1) (cSI (cSL s 161 r i (codes.getD i 0)) 162 r (nI (i + 1))) (by omega) (by omega) cI_SIe (hro.of rfl rfl) (by rw [← hrl]; exact rL_ext rfl (fun _ _ => rfl))
      refine ⟨d, ?_, fun x hx => ⟨?_, fun y => ?_⟩, e3, fun y hy => ?_, fun y h1 h2 => ?_, cd_fr_tr (cd_fr_SI (cd_fr_SL (cd_fr_refl _ _ _) (by decide) _ _ _) (by decide) (by decide) _ _) e6 (fun _ z => ⟨z, z⟩) (fun _ z => ⟨z, z⟩)⟩
      · rw [u_X10_copyPattern_L27, c_atL hro (by omega), bs_some, hrl, g0, lN_i]
        dsimp only
        rw [if_neg (fun z => absurd ((nI_leI (by omega) (by omega)).mp z) (by omega)), show (2 : Int32) = nI 2 from rfl, nI_add, nI_add, c_getL hro (by omega), bs_some, hrl, g2 i (by omega)]
        dsimp only
        unfold f_X5_addStep
        rw [h162, if_neg (show ¬ nI i < 0 from nI_nn (by omega)), if_neg (show ¬ (5 : Int32) ≤ nI i from fun z => absurd ((nI_leI (a := 5) (by decide) (by omega)).mp z) (by omega)), c_st161 (by omega), bs_some, bs_some, cI_SL, h162, nI_1, bs_some]
        dsimp only
        exact e1
      · rw [(e2 x hx).1, cI_SIi hx, cI_SL]
      · rw [(e2 x hx).2 y, cL_SI, cL_SL, if_neg (fun z => hx z.2)]
      · rw [e4 y (by omega), cL_SI, cL_SLi (by omega)]
      · by_cases hy : y = i
        · subst hy
          rw [e4 y (by omega), cL_SI, cL_SLe]
        · exact e5 y (by omega) h2
  obtain ⟨s1, hs1⟩ : ∃ s1, s1 = cSI (cSI c 162 r 0) 163 r (nI tl) := ⟨_, rfl⟩
  have hro1 : RowOk s1 1 := by rw [hs1]; exact hr.of rfl rfl
  have hrl1 : rL s1 1 = rL c 1 := by rw [hs1]; exact rL_ext rfl (fun _ _ => rfl)
  obtain ⟨d, e1, e2, e3, e4, e5, e6⟩ := lp cnt n 0 s1 (by omega) (by omega) (by rw [hs1, cI_SIo (by decide), cI_SIe]; rfl) hro1 hrl1
  have hval : (cJ c 330 0).toInt32 = nI kept := by rw [hx, lN_i]
  refine ⟨d, ?_, ⟨fun x hx => ⟨?_, ?_, ?_, fun i => ?_⟩, ?_⟩, e3, ?_, ?_, fun i hi => e5 i (Nat.zero_le _) hi⟩
  · unfold f_X10_copyPattern
    rw [bs_some, hval, nI_1, c_atL (s := cSI c 162 r 0) (hr.of rfl rfl) (by omega), bs_some, rL_SI (by decide), g1, lN_i]
    dsimp only
    rw [bs_some, ← hs1, show f_X10_copyPattern_L27 n r (nI kept) n s1 0 = _ from e1, bs_some]
  · rw [(e2 x hx).1, hs1, cI_SIo (by decide), cI_SIi hx]
  · rw [cd_frI e6 (by decide) (by decide), hs1, cI_SIi hx, cI_SIo (by decide)]
  · rw [cd_frJ e6 (by decide) (by decide), hs1]; rfl
  · rw [(e2 x hx).2 i, hs1]; rfl
  · refine cd_fr_tr (L1 := [162, 163]) (R1 := []) ?_ e6 (fun _ z => ⟨fun y => z (by simp at y; simp; omega), fun y => z (by simp at y; simp; omega)⟩) (fun _ z => ⟨z, z⟩)
    rw [hs1]
    exact cd_fr_SI (cd_fr_SI (cd_fr_refl _ _ _) (by decide) (by decide) _ _) (by decide) (by decide) _ _
  · rw [cd_frI e6 (by decide) (by decide), hs1, cI_SIe]
  · rw [cd_frJ e6 (by decide) (by decide), hs1]; rfl
/-- the model's keepPattern -/
theorem m_keep {n : Nat} {m : md_S} {p cnt tl : Nat} (hn : 100 ≤ n) (hp : p < 266) (h14 : mI m 14 = nI cnt) (hc : cnt ≤ 5) (h15 : mI m 15 = nI tl) : ∃ k, f_X12_keepPattern n m (nI p) = some (0, k) ∧ Mfr m k p ∧ mA k 18 p = nI cnt ∧ mA k 19 p = nI tl ∧ ∀ i, i < cnt → mL k 17 (5 * p + i) = mL m 13 i := by
  have lp : ∀ (d j i : Nat) (s : md_S), i + d = cnt → d < j → mI s 14 = nI cnt → ∃ k, f_X12_keepPattern_L2 n (nI p) j s (nI i) = some (k, nI cnt) ∧ (∀ y, (y < 5 * p + i ∨ 5 * p + 5 ≤ y) → mL k 17 y = mL s 17 y) ∧ (∀ y, i ≤ y → y < cnt → mL k 17 (5 * p + y) = mL s 13 y) ∧ md_fr [17] s k := by
    intro d
    induction d with
    | zero =>
      intro j i s hi hj hs
      obtain ⟨j, rfl⟩ : ∃ m, j = m + 1 := ⟨j - 1, by omega⟩
      obtain rfl : i = cnt := by omega
      refine ⟨s, ?_, fun _ _ => rfl, fun y h1 h2 => by omega, md_fr_refl _ _⟩
      rw [u_X12_keepPattern_L2, hs, if_pos ((nI_leI (by omega) (by omega)).mpr (Nat.le_refl _))]
    | succ d ih =>
      intro j i s hi hj hs
      obtain ⟨j, rfl⟩ : ∃ m, j = m + 1 := ⟨j - 1, by omega⟩
      obtain ⟨k, e1, e2, e3, e4⟩ := ih j (i + 1) (mSL s 17 (5 * p + i) (mL s 13 i)) (by omega) (by omega) hs
      refine ⟨k, ?_, fun y hy => ?_, fun y h1 h2 => ?_, md_fr_tr (md_fr_SL (md_fr_refl _ _) (by decide) _ _) e4 (fun _ z => ⟨z, z⟩)⟩
      · rw [u_X12_keepPattern_L2, hs, if_neg (fun z => absurd ((nI_leI (by omega) (by omega)).mp z) (by omega)), m_ld13 (by omega), bs_some, show (5 : Int32) = nI 5 from rfl, nI_mul, nI_add, m_st17 (by omega), bs_some, nI_1, e1]
      · rw [e2 y (by omega), mL_SLi (by omega)]
      · by_cases hy : y = i
        · subst hy
          rw [e2 _ (by omega), mL_SLe]
        · rw [e3 y (by omega) h2, mL_SLo (by decide)]
  obtain ⟨k, e1, e2, e3, e4⟩ := lp cnt n 0 m (by omega) (by omega) h14
  refine ⟨mSA (mSA k 18 p (nI cnt)) 19 p (nI tl), ?_, ⟨fun x hx => ⟨?_, ?_, fun i hi => ?_⟩, ?_⟩, ?_, ?_, fun i hi => ?_⟩
  · unfold f_X12_keepPattern
    rw [show f_X12_keepPattern_L2 n (nI p) n m 0 = _ from e1, bs_some]
    dsimp only
    rw [md_frI e4 (by decide), h14, m_st18 hp, bs_some, mI_SA, md_frI e4 (by decide), h15, m_st19 hp, bs_some]
  · rw [mA_SAo (by decide), mA_SAi hx, md_frA e4 (by decide)]
  · rw [mA_SAi hx, mA_SAo (by decide), md_frA e4 (by decide)]
  · rw [mL_SA, mL_SA, e2 _ (by omega)]
  · exact md_fr_SA (md_fr_SA (md_fr_mono e4 (fun _ z => by simp at z; simp [z])) (by decide) _ _) (by decide) _ _
  · rw [mA_SAo (by decide), mA_SAe]
  · rw [mA_SAe]
  · rw [mL_SA, mL_SA, e3 i (Nat.zero_le _) hi]
