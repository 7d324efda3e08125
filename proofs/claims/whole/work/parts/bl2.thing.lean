/-! a thing more -/
theorem m_newT {n : Nat} {m0 : md_S} {H N : Nat} (hH : H + N < 66000) : ∀ (e j i : Nat) (m : md_S), i + e = N → e < j → mI m 98 = nI H → md_fr [99, 100] m0 m → (∀ q, mA m 99 q = if H ≤ q ∧ q < H + i then 1 else mA m0 99 q) → (∀ q, mA m 100 q = if H ≤ q ∧ q < H + i then 0 else mA m0 100 q) → ∃ m', f_X12_newThing_L25 n (nI N) j m (nI i) = some (m', nI N) ∧ md_fr [99, 100] m0 m' ∧ (∀ q, mA m' 99 q = if H ≤ q ∧ q < H + N then 1 else mA m0 99 q) ∧ (∀ q, mA m' 100 q = if H ≤ q ∧ q < H + N then 0 else mA m0 100 q) := by
  intro e
  induction e with
  | zero =>
    intro j i m hi hj h98 hf h99 h100
    obtain ⟨j, rfl⟩ : ∃ q, j = q + 1 := ⟨j - 1, by omega⟩
    have hiN : i = N := by omega
    subst hiN
    exact ⟨m, by rw [u_X12_newThing_L25, if_pos ((nI_leI (by omega) (by omega)).mpr (Nat.le_refl _))], hf, h99, h100⟩
  | succ e ih =>
    intro j i m hi hj h98 hf h99 h100
    obtain ⟨j, rfl⟩ : ∃ q, j = q + 1 := ⟨j - 1, by omega⟩
    have h98' : mI (mSA m 99 (H + i) 1) 98 = nI H := h98
    obtain ⟨m', k1, k2, k3, k4⟩ := ih j (i + 1) (mSA (mSA m 99 (H + i) 1) 100 (H + i) 0) (by omega) (by omega) h98 (md_fr_SA (md_fr_SA hf (by simp) _ _) (by simp) _ _) (fun q => by
      rw [mA_SAo (by decide), mA_SA, if_pos rfl, h99]
      by_cases z : q = H + i
      · rw [if_pos z, if_pos ⟨by omega, by omega⟩]
      · rw [if_neg z]
        by_cases y : H ≤ q ∧ q < H + i
        · rw [if_pos y, if_pos ⟨y.1, by omega⟩]
        · rw [if_neg y, if_neg (fun x => y ⟨x.1, by omega⟩)]) (fun q => by
      rw [mA_SA, if_pos rfl, mA_SAo (by decide), h100]
      by_cases z : q = H + i
      · rw [if_pos z, if_pos ⟨by omega, by omega⟩]
      · rw [if_neg z]
        by_cases y : H ≤ q ∧ q < H + i
        · rw [if_pos y, if_pos ⟨y.1, by omega⟩]
        · rw [if_neg y, if_neg (fun x => y ⟨x.1, by omega⟩)])
    refine ⟨m', ?_, k2, k3, k4⟩
    rw [u_X12_newThing_L25, if_neg (fun z => absurd ((nI_leI (by omega) (by omega)).mp z) (by omega)), h98, nI_add, m_st99 (by omega), bs_some, h98', nI_add, m_st100 (by omega), bs_some, nI_1]
    exact k1
theorem m_newThing {n o N H T : Nat} {m : md_S} (hn : 40000 ≤ n) (hN : N ≤ 100) (hH : H + N < 66000) (hT : T < 2000) (h95 : mI m 95 = nI T) (h98 : mI m 98 = nI H) : ∃ m', f_X12_newThing n m (nI o) (nI N) = some (nI T, m') ∧ md_fr [95, 96, 97, 98, 99, 100] m m' ∧ mI m' 95 = nI (T + 1) ∧ mI m' 98 = nI (H + N) ∧ (∀ q, mA m' 96 q = if q = T then nI o else mA m 96 q) ∧ (∀ q, mA m' 97 q = if q = T then nI H else mA m 97 q) ∧ (∀ q, mA m' 99 q = if H ≤ q ∧ q < H + N then 1 else mA m 99 q) ∧ (∀ q, mA m' 100 q = if H ≤ q ∧ q < H + N then 0 else mA m 100 q) := by
  obtain ⟨m2, e2⟩ : ∃ m2, m2 = mSA (mSA m 96 T (nI o)) 97 T (nI H) := ⟨_, rfl⟩
  obtain ⟨m3, k1, k2, k3, k4⟩ := m_newT (n := n) (m0 := m2) (H := H) (N := N) hH N n 0 m2 (by omega) (by omega) (by rw [e2]; exact h98) (md_fr_refl _ _) (fun q => by rw [if_neg (by omega)]) (fun q => by rw [if_neg (by omega)])
  have f2 : md_fr [95, 96, 97, 98, 99, 100] m m2 := by rw [e2]; exact md_fr_SA (md_fr_SA (md_fr_refl _ _) (by simp) _ _) (by simp) _ _
  have f3 : md_fr [95, 96, 97, 98, 99, 100] m m3 := md_fr_tr f2 k2 (fun k hk => by simp at hk ⊢; omega)
  have h98' : mI m3 98 = nI H := by rw [md_frI k2 (by decide), e2]; exact h98
  have h95' : mI m3 95 = nI T := by rw [md_frI k2 (by decide), e2]; exact h95
  refine ⟨mSI (mSI m3 98 (nI (H + N))) 95 (nI (T + 1)), ?_, md_fr_SI (md_fr_SI f3 (by simp) _) (by simp) _, mI_SIe, by rw [mI_SIo (by decide), mI_SIe], fun q => ?_, fun q => ?_, fun q => ?_, fun q => ?_⟩
  · unfold f_X12_newThing
    rw [h95, m_st96 (by omega), bs_some, mI_SA, h95, mI_SA, h98, m_st97 (by omega), bs_some, ← e2, show f_X12_newThing_L25 n (nI N) n m2 0 = _ from k1, bs_some, bs_some, h98', nI_add, mI_SIo (by decide), h95', nI_1, bs_some, mI_SIe, show (1 : Int32) = nI 1 from rfl, nI_sub (by omega), Nat.add_sub_cancel]
  · rw [mA_SI, mA_SI, md_frA k2 (by decide), e2, mA_SAo (by decide), mA_SA, if_pos rfl]
  · rw [mA_SI, mA_SI, md_frA k2 (by decide), e2, mA_SA, if_pos rfl, mA_SAo (by decide)]
  · rw [mA_SI, mA_SI, k3, e2, mA_SAo (by decide), mA_SAo (by decide)]
  · rw [mA_SI, mA_SI, k4, e2, mA_SAo (by decide), mA_SAo (by decide)]
/-- class: a thing more, without its slots -/
theorem c_thing {n T H o : Nat} {C : Nat × Nat} {c : cd_S} {b : cd_B} (hC : BC C) (hB : Bd C c b) (h6 : rsz c 6 = 2 * T) (hT : T < 2000) (h7 : rsz c 7 = H) : ∃ c' b', f_X1_addThing n c b (nI o) = some (nI T, c', b') ∧ Bd C c' b' ∧ ble b' b ∧ cd_fr [] [6] c c' ∧ rsz c' 6 = 2 * (T + 1) ∧ cRF c' 6 (2 * T) = i64 o ∧ cRF c' 6 (2 * T + 1) = i64 H ∧ ∀ j, j < 2 * T → cRF c' 6 j = cRF c 6 j := by
  have hcap : rcap 6 = 4096 := by decide
  have h7i : cI c 193 7 = nI H := by have := (hB.1 7 (by omega)).1; rw [this, h7]
  obtain ⟨b1, d1, e1, f1, g1⟩ := c_add (n := n) (v := i64 o) hC hB (r := 6) (by omega) (by omega)
  have y1 : rsz (rAdd c 6 (i64 o)) 6 = 2 * T + 1 := by rw [rAdd_sz (by omega), h6]
  have z7 : cI (rAdd c 6 (i64 o)) 193 7 = nI H := by rw [rAdd_I, if_neg (by decide)]; exact h7i
  obtain ⟨b2, d2, e2, f2, g2⟩ := c_add (n := n) (v := i64 H) hC e1 (r := 6) (by omega) (by omega)
  have y2 : rsz (rAdd (rAdd c 6 (i64 o)) 6 (i64 H)) 6 = 2 * T + 2 := by rw [rAdd_sz (by omega), y1]
  have k1 := (hB.1 6 (by omega)).2.1
  have k2 := (e1.1 6 (by omega)).2.1
  refine ⟨rAdd (rAdd c 6 (i64 o)) 6 (i64 H), b2, ?_, e2, ⟨by omega, by omega⟩, cd_fr_add (cd_fr_add (cd_fr_refl _ _ _) (by simp) _) (by simp) _, by omega, ?_, ?_, fun j hj => ?_⟩
  · unfold f_X1_addThing
    refine c_ck ?_ (by dsimp only; omega) (by dsimp only; omega)
    rw [show f_X6_add n c b 6 (nI o).toInt64 = _ from d1, bs_some]
    refine c_ck ?_ (by dsimp only; omega) (by dsimp only; omega)
    dsimp only
    rw [z7, show f_X6_add n (rAdd c 6 (i64 o)) b1 6 (nI H).toInt64 = _ from d2, bs_some]
    refine c_ck ?_ (by dsimp only; omega) (by dsimp only; omega)
    dsimp only
    rw [(e2.1 6 (by omega)).1, y2, show 2 * T + 2 = 2 * (T + 1) by omega, show (2 : Int32) = nI 2 from rfl, nI_divk (by decide) (by decide) (by omega), show (1 : Int32) = nI 1 from rfl, nI_sub (by omega), Nat.add_sub_cancel]
  · rw [rAdd_Fl k2 (by omega), ← h6, rAdd_Fe]
  · rw [← y1, rAdd_Fe]
  · rw [rAdd_Fl k2 (by omega), rAdd_Fl k1 (by omega)]
theorem HP.add {c c' c1 : cd_S} {m m' m1 : md_S} {h : HV} {d T H N o : Nat} {bo : Bool} (hh : HP c m h c1 m1 d) (hT : h.2.1.length = T) (hT2 : T < 2000) (hH : rsz c 7 = H) (hN : N ≤ 32) (hbo : (bo = true → o < d ∧ ftot m1 c1 o ≤ N) ∧ (bo = false → o < mN m1 35 ∧ mA m1 36 o ≠ 4 ∧ aN m1 44 o ≤ N)) (c6 : rsz c' 6 = 2 * (T + 1)) (c6a : cRF c' 6 (2 * T) = i64 o) (c6b : cRF c' 6 (2 * T + 1) = i64 H) (c6c : ∀ j, j < 2 * T → cRF c' 6 j = cRF c 6 j) (c7 : rsz c' 7 = H + N) (c7a : ∀ j, j < H → cRF c' 7 j = cRF c 7 j) (m95 : mI m' 95 = nI (T + 1)) (m98 : mI m' 98 = nI (H + N)) (m96 : ∀ q, mA m' 96 q = if q = T then nI o else mA m 96 q) (m97 : ∀ q, mA m' 97 q = if q = T then nI H else mA m 97 q) (m99 : ∀ j, j < H → mA m' 99 j = mA m 99 j ∧ mA m' 100 j = mA m 100 j) (mx : ∀ j, H ≤ j → j < H + N → mA m' 99 j = vS (cRF c' 7 j) ∧ mA m' 100 j = mv h.1 (cRF c' 7 j) ∧ VOK h (cRF c' 7 j)) : HP c' m' (h.1, h.2.1 ++ [(bo, o, H)], h.2.2) c1 m1 d ∧ HVle h (h.1, h.2.1 ++ [(bo, o, H)], h.2.2) := by
  have hl : HVle h (h.1, h.2.1 ++ [(bo, o, H)], h.2.2) := ⟨rfl, ⟨[(bo, o, H)], rfl⟩, Nat.le_refl _, Nat.le_refl _⟩
  obtain ⟨H', ⟨a1, a2, a3, a4, a5, a6⟩, a7, a8⟩ := hh
  have hHH : H' = H := by omega
  subst hHH
  refine ⟨⟨H' + N, ⟨?_, ?_, ?_, c7, m98, ?_⟩, fun i b o' a' hi => ?_, fun j hj => ?_⟩, hl⟩
  · show rsz c' 6 = 2 * (h.2.1 ++ [(bo, o, H')]).length
    rw [List.length_append, hT]; exact c6
  · show (h.2.1 ++ [(bo, o, H')]).length ≤ 2000
    rw [List.length_append, hT]; show T + 1 ≤ 2000; omega
  · show mI m' 95 = nI (h.2.1 ++ [(bo, o, H')]).length
    rw [List.length_append, hT]; exact m95
  · show H' + N ≤ 32 * (h.2.1 ++ [(bo, o, H')]).length
    rw [List.length_append, hT]; show H' + N ≤ 32 * (T + 1); omega
  · have hi' : (h.2.1 ++ [(bo, o, H')])[i]? = some (b, o', a') := hi
    by_cases q : i < T
    · rw [List.getElem?_append_left (by omega)] at hi'
      obtain ⟨e1, e2, e3, e4, e5, e6⟩ := a7 i b o' a' hi'
      rw [c6c _ (by omega), c6c _ (by omega), m96, if_neg (by omega), m97, if_neg (by omega)]
      exact ⟨e1, e2, e3, e4, fun z => ⟨(e5 z).1, by have := (e5 z).2; omega⟩, fun z => ⟨(e6 z).1, (e6 z).2.1, by have := (e6 z).2.2; omega⟩⟩
    · have hiT : i = T := by
        obtain ⟨z, -⟩ := List.getElem?_eq_some_iff.mp hi'
        rw [List.length_append, hT] at z
        have : i < T + 1 := z
        omega
      subst hiT
      rw [List.getElem?_append_right (by omega), hT, Nat.sub_self] at hi'
      injection hi' with hi'
      injection hi' with z1 z2
      injection z2 with z2 z3
      subst z1; subst z2; subst z3
      rw [m96, if_pos rfl, m97, if_pos rfl]
      exact ⟨c6a, c6b, rfl, rfl, fun z => ⟨(hbo.1 z).1, by have := (hbo.1 z).2; omega⟩, fun z => ⟨(hbo.2 z).1, (hbo.2 z).2.1, by have := (hbo.2 z).2.2; omega⟩⟩
  · by_cases q : j < H'
    · obtain ⟨e1, e2, e3⟩ := a8 j q
      rw [(m99 j q).1, (m99 j q).2, c7a j q]
      exact ⟨e1, e2, e3.mo hl⟩
    · obtain ⟨e1, e2, e3⟩ := mx j (by omega) hj
      exact ⟨e1, e2, e3.mo hl⟩
