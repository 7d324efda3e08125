/-! atoms without children, in step -/
/-- a node without children: the class emits for it and goes on to the next word -/
theorem leaf_ok {n : Nat} {C : Nat × Nat} {B : Nat → Int32} {N : Nat} {c0 c c2 : cd_S} {m0 m m2 : md_S} {b : cd_B} {w : WD} {L : List WD} {O : List Nat} {mc k kl k0 kl0 : Nat} {t x y : Int32} (hC : BC C) (hn : 5000 ≤ n) (hc : CI C c0 b c2 b) (hm : MI m0 m2) (h : LX B N c2 m2 w L) (hk : wK w ≠ 0) (hs0 : ST c m O mc k0 kl0) (hs : ST c2 m2 O mc (k + 6) kl) (hg : GR c c2 m m2) (hp : mN m 62 < mN m2 62) (hb : mN m2 65 + 1 ≤ 2 * mN m2 62 + kl) (h302 : cI c2 302 (mN m 64) = cI c 302 (mN m 64)) (hL : rL c2 (17 + 3 * mN m 64) = rL c (17 + 3 * mN m 64)) (h65 : mN m2 65 = mN m 65) (ht : t ≠ 40 ∧ t ≠ 41 ∧ t ≠ 19 ∧ t ≠ 42 ∧ t ≠ 2 ∧ t ≠ 9 ∧ t ≠ 10) (hw : ∀ q : md_S, KP m2 q → (∀ i, mA q 66 i = t → mA q 68 i = x → mA q 69 i = y → WFN q i 0)) :
    OUT C c0 m0 b (Option.bind (cd_dp c2 136 0) fun u8 => Option.bind (f_X9_emit n c2 b u8 t x y) fun p9 => cd_ck sF (p9.2.2) <| f_X4_readPlainAtom_J129 n p9.2.1 (p9.2.2)) (Option.bind (f_X12_node n m2 t x y) fun p2 => Option.bind (f_X12_next n p2.2) fun p3 => some (p2.1, p3.2)) (EOk 3 B N c m O mc k kl L) (fun c' _ => CS c' k ∧ cN c 66 ≤ cN c' 66) := by
  obtain ⟨i, lc0, hi, n1, hbn⟩ := BN.new (n := n) (t := t) (x := x) (y := y) hs0 hs hg hp hb h302 hL h65
  have f3 := ndm_fr m2 i t x y
  have hX3 : LX B N c2 (ndm m2 i t x y) w L := h.fr (cd_fr_refl _ [] []) f3 (by decide) (by decide) (by decide)
  obtain ⟨b3, d1, d2, d3, d4, d5, d6⟩ := BN.emit (n := n) (k := k + 5) (e1 := t) (e2 := x) (e3 := y) hC hc hbn hX3
  rw [d1, bs_some]
  refine out_em d2 d3 ?_
  dsimp only
  unfold f_X4_readPlainAtom_J129
  rw [n1, bs_some]
  dsimp only
  obtain ⟨c5, m5, a1, a2, a3, a4, ⟨w', L', hL', a5⟩, a6⟩ := adv_ok (n := n) hn d6 hk
  rw [a1, bs_some, a2, bs_some]
  have hm5 : MI m0 m5 := (hm.fr f3 (by decide)).fr a4 (by decide)
  have hc5 : CI C c0 b3 c5 b3 := d4.fr a3 (by decide)
  refine ⟨nI i, m5, rfl, hm5, ?_⟩
  rcases a5 with hX5 | ⟨hbw, hnf⟩
  · left
    have hbn5 := d5.adv hs0 a3 a4 (a6 hX5.fine)
    obtain ⟨u1, u2, u3⟩ := cmb_op (l0 := lc0) (ess := []) hbn5.2.2.2.1 ht
    refine ⟨0, c5, b3, rfl, hc5, (hbn5.debt (Nat.le_refl _) (by have := hs.2.2.1.2.2.2.2.1; omega) (show k ≤ k + 5 by omega)).fin hX5 (by rw [hL']; simp) ?_ u3 ?_ ?_⟩
    · rw [← hbn5.2.2.2.1, u2]; rfl
    · exact hw m5 ((KP.fr f3 (by decide)).tr (KP.fr a4 (by decide))) i hbn5.2.2.2.1 hbn5.2.2.2.2.1 hbn5.2.2.2.2.2.1
    · rw [u1, hbn5.2.2.2.2.1, hbn5.2.2.2.2.2.1]; simp
  · right; left
    obtain ⟨z1, z2⟩ := CS.adv d5.1.1 a3
    refine ⟨wF w', Or.inl ⟨0, c5, b3, rfl, hc5, hbw, z1.less (by omega), ?_⟩, hnf⟩
    have e1 := d5.1.nv.2.2.2.2.2.1
    have e2 := d5.2.1.n35
    have e3 := hs0.nv.2.2.2.2.2.1
    omega
theorem WFN.leaf {q : md_S} {i : Nat} {t : Int32} (ht : t = 1 ∨ t = 27) (h1 : mA q 66 i = t) (h2 : mA q 68 i = 0) (h3 : mA q 69 i = 0) : WFN q i 0 :=
  Or.inr (Or.inl ⟨by rw [h1]; exact ht, rfl, h2, h3⟩)
/-- none and ctx -/
theorem none_ok {n : Nat} {C : Nat × Nat} {B : Nat → Int32} {N : Nat} {t kk : Int32} {dm kd : Nat} (hC : BC C) (hn : 5000 ≤ n) (hkd : kd ≤ 30) (ht : kk = 224 ∧ t = 1 ∨ kk = 226 ∧ t = 27) : EXw C B N (fun k => k = kk) (fun c b => f_X4_readPlainAtom n c b) (fun m => f_X12_simple n m t 0 0) dm kd 3 := by
  intro c0 m0 c m b w L O mc k kl hc hm h hkw hs h63 hkl
  dsimp only at hkw ⊢
  have hk0 : wK w ≠ 0 := by rw [hkw]; rcases ht with ⟨rfl, -⟩ | ⟨rfl, -⟩ <;> decide
  have ht' : t ≠ 40 ∧ t ≠ 41 ∧ t ≠ 19 ∧ t ≠ 42 ∧ t ≠ 2 ∧ t ≠ 9 ∧ t ≠ 10 := by rcases ht with ⟨-, rfl⟩ | ⟨-, rfl⟩ <;> decide
  unfold f_X4_readPlainAtom f_X12_simple
  refine out_ck ?_
  rcases part_st (n := n) hC hc hm h hs with ⟨c', b', m', e1, e2, e3, e4, e5⟩ | ⟨c2, m2, e1, e2, hc2, hm2, h2, hs2, hg2, hp2, hb2, fc2, fm2⟩
  · refine out_thr e1 e3 hc (ble.refl _) (x := 0) (m' := m') ?_ e4 e5
    rw [e2, bs_some]
    rfl
  · refine out_c e1 ?_
    dsimp only
    rw [e2, bs_some]
    dsimp only
    rw [if_neg ne10, h2.k.1, hkw]
    have key := leaf_ok (n := n) (t := t) (x := 0) (y := 0) hC hn hc2 hm2 h2 hk0 hs hs2 hg2 hp2 hb2 (cd_frI fc2 (by decide) (by decide) _) (rL_fr fc2 (by simp)) (mN_fr fm2 (by decide)) ht' (fun q _ i q1 q2 q3 => WFN.leaf (by rcases ht with ⟨-, rfl⟩ | ⟨-, rfl⟩ <;> decide) q1 q2 q3)
    rcases ht with ⟨rfl, rfl⟩ | ⟨rfl, rfl⟩
    · rw [if_neg (show ¬ (224 : Int32) = 3 by decide), if_pos rfl]
      exact key
    · rw [if_neg (show ¬ (226 : Int32) = 3 by decide), if_neg (show ¬ (226 : Int32) = 224 by decide), if_neg (show ¬ (226 : Int32) = 225 by decide), if_pos rfl]
      exact key
/-- numbers: the two tables -/
theorem c_nbrL {n : Nat} {c : cd_S} {v : Int32} {K : Nat} (hK : cI c 76 0 = nI K) (hK4 : K ≤ 400) : ∀ (d j i : Nat), i + d = K → d < j → (∃ x, i ≤ x ∧ x < K ∧ cAr c 75 0 x = v ∧ (∀ y, i ≤ y → y < x → cAr c 75 0 y ≠ v) ∧ f_X2_numberIndex_L2 n v j c (nI i) = some (Sum.inl (nI x, c))) ∨ ((∀ y, i ≤ y → y < K → cAr c 75 0 y ≠ v) ∧ f_X2_numberIndex_L2 n v j c (nI i) = some (Sum.inr (c, nI K))) := by
  intro d
  induction d with
  | zero =>
    intro j i hi hj
    obtain ⟨j, rfl⟩ : ∃ q, j = q + 1 := ⟨j - 1, by omega⟩
    right
    refine ⟨fun y h1 h2 => by omega, ?_⟩
    obtain rfl : i = K := by omega
    rw [u_X2_numberIndex_L2, hK, if_pos ((nI_leI (by omega) (by omega)).mpr (Nat.le_refl _))]
  | succ d ih =>
    intro j i hi hj
    obtain ⟨j, rfl⟩ : ∃ q, j = q + 1 := ⟨j - 1, by omega⟩
    rw [u_X2_numberIndex_L2, hK, if_neg (fun y => absurd ((nI_leI (by omega) (by omega)).mp y) (by omega)), c_ld75 (by omega), bs_some]
    by_cases hv : cAr c 75 0 i = v
    · rw [if_pos hv]
      exact Or.inl ⟨i, Nat.le_refl _, by omega, hv, fun y h1 h2 => by omega, rfl⟩
    · rw [if_neg hv, nI_1]
      rcases ih j (i + 1) (by omega) (by omega) with ⟨x, x1, x2, x3, x4, x5⟩ | ⟨x1, x2⟩
      · exact Or.inl ⟨x, by omega, x2, x3, fun y h1 h2 => by
          by_cases hy : y = i
          · rw [hy]; exact hv
          · exact x4 y (by omega) h2, x5⟩
      · exact Or.inr ⟨fun y h1 h2 => by
          by_cases hy : y = i
          · rw [hy]; exact hv
          · exact x1 y (by omega) h2, x2⟩
theorem m_nbrL {n : Nat} {m : md_S} {v : Int32} {K : Nat} (hK : mI m 58 = nI K) (hK4 : K ≤ 400) : ∀ (d j i : Nat), i + d = K → d < j → (∃ x, i ≤ x ∧ x < K ∧ mA m 59 x = v ∧ (∀ y, i ≤ y → y < x → mA m 59 y ≠ v) ∧ f_X12_numberOf_L2 n v j m (nI i) = some (Sum.inl (nI x, m))) ∨ ((∀ y, i ≤ y → y < K → mA m 59 y ≠ v) ∧ f_X12_numberOf_L2 n v j m (nI i) = some (Sum.inr (m, nI K))) := by
  intro d
  induction d with
  | zero =>
    intro j i hi hj
    obtain ⟨j, rfl⟩ : ∃ q, j = q + 1 := ⟨j - 1, by omega⟩
    right
    refine ⟨fun y h1 h2 => by omega, ?_⟩
    obtain rfl : i = K := by omega
    rw [u_X12_numberOf_L2, hK, if_pos ((nI_leI (by omega) (by omega)).mpr (Nat.le_refl _))]
  | succ d ih =>
    intro j i hi hj
    obtain ⟨j, rfl⟩ : ∃ q, j = q + 1 := ⟨j - 1, by omega⟩
    rw [u_X12_numberOf_L2, hK, if_neg (fun y => absurd ((nI_leI (by omega) (by omega)).mp y) (by omega)), m_ld59 (by omega), bs_some]
    by_cases hv : mA m 59 i = v
    · rw [if_pos hv]
      exact Or.inl ⟨i, Nat.le_refl _, by omega, hv, fun y h1 h2 => by omega, rfl⟩
    · rw [if_neg hv, nI_1]
      rcases ih j (i + 1) (by omega) (by omega) with ⟨x, x1, x2, x3, x4, x5⟩ | ⟨x1, x2⟩
      · exact Or.inl ⟨x, by omega, x2, x3, fun y h1 h2 => by
          by_cases hy : y = i
          · rw [hy]; exact hv
          · exact x4 y (by omega) h2, x5⟩
      · exact Or.inr ⟨fun y h1 h2 => by
          by_cases hy : y = i
          · rw [hy]; exact hv
          · exact x1 y (by omega) h2, x2⟩
theorem nbr_ok {n : Nat} {c : cd_S} {m : md_S} {v : Int32} (hn : 5000 ≤ n) (h : NUR c m) (hlt : mN m 58 < mN m 62) (h62 : mN m 62 ≤ 400) : ∃ x c' m', f_X2_numberIndex n c v = some (nI x, c') ∧ f_X12_numberOf n m v = some (nI x, m') ∧ cd_fr [75, 76] [] c c' ∧ md_fr [58, 59] m m' ∧ NUR c' m' ∧ x < mN m' 58 ∧ mN m 58 ≤ mN m' 58 := by
  have h0 := h
  obtain ⟨a1, a2, a3, a4, a5, a6⟩ := h
  have e1 := c_nbrL (n := n) (v := v) a1 (by omega) (mN m 58) n 0 (by omega) (by omega)
  have e2 := m_nbrL (n := n) (v := v) a2 (by omega) (mN m 58) n 0 (by omega) (by omega)
  unfold f_X2_numberIndex f_X12_numberOf f_X2_numberIndex_J58
  rw [show (0 : Int32) = nI 0 from rfl]
  rcases e1 with ⟨x, -, x2, x3, x4, x5⟩ | ⟨x1, x2⟩
  · rcases e2 with ⟨y, -, y2, y3, y4, y5⟩ | ⟨y1, y2⟩
    · have hxy : x = y := by
        rcases Nat.lt_trichotomy x y with q | q | q
        · exact absurd ((a4 x x2).symm.trans x3) (y4 x (by omega) q)
        · exact q
        · exact absurd ((a4 y y2).trans y3) (x4 y (by omega) q)
      subst hxy
      refine ⟨x, c, m, ?_, ?_, cd_fr_refl _ _ _, md_fr_refl _ _, h0, x2, Nat.le_refl _⟩
      · rw [x5, bs_some]; rfl
      · rw [y5, bs_some]; rfl
    · exact absurd ((a4 x x2).symm.trans x3) (y1 x (by omega) x2)
  · rcases e2 with ⟨y, -, y2, y3, y4, y5⟩ | ⟨y1, y2⟩
    · exact absurd ((a4 y y2).trans y3) (x1 y (by omega) y2)
    · have n58 : mN (mSI (mSA m 59 (mN m 58) v) 58 (nI (mN m 58 + 1))) 58 = mN m 58 + 1 := mN_of mI_SIe (by omega)
      have n62 : mN (mSI (mSA m 59 (mN m 58) v) 58 (nI (mN m 58 + 1))) 62 = mN m 62 := by rw [mN, mN, mI_SIo (by decide), mI_SA]; rfl
      refine ⟨mN m 58, cSI (cSA c 75 0 (mN m 58) v) 76 0 (nI (mN m 58 + 1)), mSI (mSA m 59 (mN m 58) v) 58 (nI (mN m 58 + 1)), ?_, ?_, cd_fr_SI (cd_fr_SA (cd_fr_refl _ _ _) (by decide) _ _ _) (by decide) (by decide) _ _, md_fr_SI (md_fr_SA (md_fr_refl _ _) (by decide) _ _) (by decide) _, ⟨?_, ?_, ?_, fun i hi => ?_, a5.to (ME.of (md_fr_SI (md_fr_SA (md_fr_refl m [58, 59]) (by decide) _ _) (by decide) _) (by decide)) (Nat.le_of_eq (mN_fr (md_fr_SI (md_fr_SA (md_fr_refl m [58, 59]) (by decide) _ _) (by decide) _) (by decide)).symm), a6.to (ME.of (md_fr_SI (md_fr_SA (md_fr_refl m [58, 59]) (by decide) _ _) (by decide) _) (by decide))⟩, by omega, by omega⟩
      · rw [x2, bs_some]
        dsimp only [Sum.elim]
        rw [a1, if_neg (show ¬ (400 : Int32) ≤ nI (mN m 58) from fun y => absurd ((nI_leI (a := 400) (by decide) (by omega)).mp y) (by omega)), c_st75 (by omega), bs_some, bs_some, cI_SA, a1, nI_1, cI_SIe, nI_back]
      · rw [y2, bs_some]
        dsimp only [Sum.elim]
        rw [a2, m_st59 (by omega), bs_some, bs_some, mI_SA, a2, nI_1, mI_SIe, nI_back]
      · rw [n58, cI_SIe]
      · rw [n58, mI_SIe]
      · omega
      · rw [n58] at hi
        by_cases hq : i = mN m 58
        · subst hq
          show cAr (cSA c 75 0 (mN m 58) v) 75 0 (mN m 58) = mA (mSA m 59 (mN m 58) v) 59 (mN m 58)
          rw [cA_SAe, mA_SAe]
        · show cAr (cSA c 75 0 (mN m 58) v) 75 0 i = mA (mSA m 59 (mN m 58) v) 59 i
          rw [cA_SAi hq, mA_SAi hq]; exact a4 i (by omega)
