/-! the method of a name -/
/-- the methods of module d, on both sides -/
def MTH (c : cd_S) (m : md_S) (U d : Nat) : Prop := ∃ kM, kM ≤ 12 ∧ cAr c 73 0 d = nI kM ∧ mA m 30 d = nI kM ∧ ∀ x, x < kM → ∃ uu, uu < 60 ∧ uu < U ∧ mA m 36 uu = 0 ∧ cAr c 72 0 (12 * d + x) = nI uu ∧ mA m 31 (12 * d + x) = nI uu ∧ NR (cJ c 293 uu) (mL m 43 uu) ∧ cI c 294 uu = mA m 39 uu
theorem own2 {n : Nat} {c : cd_S} {m : md_S} {d kM U : Nat} {nm nm2 : Int64} {p : Int32} (hd8 : d < 8) (hk12 : kM ≤ 12) (h30 : mA m 30 d = nI kM) (hx : ∀ x, x < kM → ∃ uu, uu < 60 ∧ uu < U ∧ mA m 36 uu = 0 ∧ cAr c 72 0 (12 * d + x) = nI uu ∧ mA m 31 (12 * d + x) = nI uu ∧ NR (cJ c 293 uu) (mL m 43 uu) ∧ cI c 294 uu = mA m 39 uu) (hnm : NR nm nm2) : ∀ (e j j2 i : Nat), i + e = kM → e < j → e < j2 → (∃ v, (v < 60 ∧ v < U ∧ mA m 36 v = 0 ∧ mA m 39 v = p) ∧ f_X2_ownMethod_L27 n (nI d) nm p (nI kM) j c (nI i) = some (Sum.inl (nI v, c)) ∧ f_X12_methodOf_L12 n nm2 p (nI d) j2 m (nI i) = some (Sum.inl (nI v, m))) ∨ (f_X2_ownMethod_L27 n (nI d) nm p (nI kM) j c (nI i) = some (Sum.inr (c, nI kM)) ∧ f_X12_methodOf_L12 n nm2 p (nI d) j2 m (nI i) = some (Sum.inr (m, nI kM))) := by
  intro e
  induction e with
  | zero =>
    intro j j2 i hi hj hj2
    obtain ⟨j, rfl⟩ : ∃ q, j = q + 1 := ⟨j - 1, by omega⟩
    obtain ⟨j2, rfl⟩ : ∃ q, j2 = q + 1 := ⟨j2 - 1, by omega⟩
    obtain rfl : i = kM := by omega
    right
    have hle : nI i ≤ nI i := (nI_leI (by omega) (by omega)).mpr (Nat.le_refl _)
    refine ⟨by rw [u_X2_ownMethod_L27, if_pos hle], ?_⟩
    rw [u_X12_methodOf_L12, m_ld30 hd8, bs_some, h30, if_pos hle]
  | succ e ih =>
    intro j j2 i hi hj hj2
    obtain ⟨j, rfl⟩ : ∃ q, j = q + 1 := ⟨j - 1, by omega⟩
    obtain ⟨j2, rfl⟩ : ∃ q, j2 = q + 1 := ⟨j2 - 1, by omega⟩
    have hnle : ¬ nI kM ≤ nI i := fun y => absurd ((nI_leI (by omega) (by omega)).mp y) (by omega)
    obtain ⟨uu, u1, u1', u6, u2, u3, u4, u5⟩ := hx i (by omega)
    have e1 : nI d * 12 + nI i = nI (12 * d + i) := by rw [show (12 : Int32) = nI 12 from rfl, nI_mul, nI_add, Nat.mul_comm]
    have e2 : (12 : Int32) * nI d + nI i = nI (12 * d + i) := by rw [show (12 : Int32) = nI 12 from rfl, nI_mul, nI_add]
    have ihh := ih j j2 (i + 1) (by omega) (by omega) (by omega)
    rw [u_X2_ownMethod_L27, if_neg hnle, e1, c_ld72 (by omega), bs_some, u2, c_unitAt u1, bs_some, u_X12_methodOf_L12, m_ld30 hd8, bs_some, h30, if_neg hnle, e2, m_ld31 (by omega), bs_some, u3, m_ld43 u1, bs_some]
    unfold f_X2_ownMethod_J79 f_X12_methodOf_J66
    dsimp only
    rw [nI_1]
    by_cases hn1 : cJ c 293 uu = nm
    · have hn2 : mL m 43 uu = nm2 := (NR.iff u4 hnm).mp hn1
      rw [if_pos (lgc.mpr hn1), if_pos (lgc.mpr hn2), c_unitAt u1, bs_some, m_ld39 u1, bs_some]
      dsimp only
      by_cases hp : cI c 294 uu = p
      · have hp2 : mA m 39 uu = p := by rw [← u5]; exact hp
        rw [if_pos hp, if_pos hp2]
        exact Or.inl ⟨uu, ⟨u1, u1', u6, hp2⟩, rfl, rfl⟩
      · have hp2 : ¬ mA m 39 uu = p := by rw [← u5]; exact hp
        rw [if_neg hp, if_neg hp2]
        exact ihh
    · have hn2 : ¬ mL m 43 uu = nm2 := fun y => hn1 ((NR.iff u4 hnm).mpr y)
      rw [if_neg (fun y => hn1 (lgc.mp y)), if_neg (fun y => hn2 (lgc.mp y))]
      exact ihh
theorem mthO {n : Nat} {c : cd_S} {m : md_S} {mc U : Nat} {nm nm2 : Int64} {p : Int32} (hn : 5000 ≤ n) (h : MDR c m mc) (hM : ∀ i, i < mc → MTH c m U i) (hnm : NR nm nm2) : ∀ (t i : Nat), i ≤ t → i < mc → ∀ (j j2 l7 : Nat), i + 2 < j → i + 2 < j2 → l7 + i ≤ 7 → (∃ v x y, (v < 60 ∧ v < U ∧ mA m 36 v = 0 ∧ mA m 39 v = p) ∧ f_X2_findMethod_L9 n nm p j c (nI i) (-1) (nI l7) = some (c, x, nI v, y) ∧ f_X12_methodOf_L3 n nm2 p j2 m (nI i) = some (Sum.inl (nI v, m))) ∨ (∃ x y, f_X2_findMethod_L9 n nm p j c (nI i) (-1) (nI l7) = some (c, x, -1, y) ∧ f_X12_methodOf_L3 n nm2 p j2 m (nI i) = some (Sum.inr (m, -1))) := by
  have hh := h
  obtain ⟨hmc8, h74, -, hq⟩ := hh
  intro t
  induction t with
  | zero =>
    intro i hit him j j2 l7 hj hj2 hl
    obtain rfl : i = 0 := by omega
    obtain ⟨j, rfl⟩ : ∃ q, j = q + 1 + 1 := ⟨j - 2, by omega⟩
    obtain ⟨j2, rfl⟩ : ∃ q, j2 = q + 1 + 1 := ⟨j2 - 2, by omega⟩
    obtain ⟨-, h68, hsup, -⟩ := hq 0 him
    have hm1 : mA m 27 0 = -1 := by
      rcases hsup with y | ⟨p, p1, -⟩
      · exact y
      · omega
    obtain ⟨kM, k1, k2, k3, k4⟩ := hM 0 him
    have stp : ∀ (r : Int32) (l : Int32), ∃ x y, f_X2_findMethod_L9 n nm p (j + 1) c (-1) r l = some (c, x, r, y) := fun r l => by
      rw [u_X2_findMethod_L9]
      by_cases h8 : (8 : Int32) ≤ l
      · rw [if_pos h8]; exact ⟨_, _, rfl⟩
      · rw [if_neg h8]
        unfold f_X2_isModule
        rw [if_pos (show (-1 : Int32) < 0 from by decide), bs_some]
        exact ⟨_, _, rfl⟩
    have hown : ∀ r, f_X2_ownMethod n c (nI 0) nm p = some (r, c) → ∃ x y, f_X2_findMethod_L9 n nm p (j + 1 + 1) c (nI 0) (-1) (nI l7) = some (c, x, r, y) := fun r hr => by
      obtain ⟨x, y, hs⟩ := stp r (nI (l7 + 1))
      refine ⟨x, y, ?_⟩
      rw [u_X2_findMethod_L9, if_neg (show ¬ (8 : Int32) ≤ nI l7 from fun y => absurd ((nI_leI (a := 8) (by decide) (by omega)).mp y) (by omega)), c_isModule hmc8 h74 him, bs_some]
      dsimp only
      rw [if_neg ne10, if_pos rfl, hr, bs_some]
      dsimp only
      rw [c_ld68 (by omega), bs_some, h68, hm1, nI_1]
      exact hs
    rcases own2 (n := n) (p := p) (by omega) k1 k3 k4 hnm kM n n 0 (by omega) (by omega) (by omega) with ⟨v, v1, v2, v3⟩ | ⟨v2, v3⟩
    · left
      obtain ⟨x, y, hs⟩ := hown (nI v) (by
        unfold f_X2_ownMethod f_X2_ownMethod_J22
        rw [if_neg (show ¬ nI 0 < 0 from nI_nn (by omega)), h74, if_neg (show ¬ nI mc ≤ nI 0 from fun y => absurd ((nI_leI (by omega) (by omega)).mp y) (by omega)), c_ld73 (by omega), bs_some, k2, show f_X2_ownMethod_L27 n (nI 0) nm p (nI kM) n c 0 = _ from v2, bs_some]
        rfl)
      refine ⟨v, x, y, v1, hs, ?_⟩
      rw [u_X12_methodOf_L3, if_neg (nI_nem1 (by omega)), show f_X12_methodOf_L12 n nm2 p (nI 0) n m 0 = _ from v3, bs_some]
      rfl
    · right
      obtain ⟨x, y, hs⟩ := hown (-1) (by
        unfold f_X2_ownMethod f_X2_ownMethod_J22
        rw [if_neg (show ¬ nI 0 < 0 from nI_nn (by omega)), h74, if_neg (show ¬ nI mc ≤ nI 0 from fun y => absurd ((nI_leI (by omega) (by omega)).mp y) (by omega)), c_ld73 (by omega), bs_some, k2, show f_X2_ownMethod_L27 n (nI 0) nm p (nI kM) n c 0 = _ from v2, bs_some]
        rfl)
      refine ⟨x, y, hs, ?_⟩
      rw [u_X12_methodOf_L3, if_neg (nI_nem1 (by omega)), show f_X12_methodOf_L12 n nm2 p (nI 0) n m 0 = _ from v3, bs_some]
      dsimp only [Sum.elim]
      rw [m_ld27 (by omega), bs_some, hm1, u_X12_methodOf_L3, if_pos rfl]
  | succ t ih =>
    intro i hit him j j2 l7 hj hj2 hl
    obtain ⟨j, rfl⟩ : ∃ q, j = q + 1 + 1 := ⟨j - 2, by omega⟩
    obtain ⟨j2, rfl⟩ : ∃ q, j2 = q + 1 + 1 := ⟨j2 - 2, by omega⟩
    obtain ⟨-, h68, hsup, -⟩ := hq i him
    obtain ⟨kM, k1, k2, k3, k4⟩ := hM i him
    -- one turn behind a found method
    have stp : ∀ (k : Int32) (v : Nat) (l : Int32), v < 60 → ∃ x y, f_X2_findMethod_L9 n nm p (j + 1) c k (nI v) l = some (c, x, nI v, y) := fun k v l hv => by
      rw [u_X2_findMethod_L9]
      by_cases h8 : (8 : Int32) ≤ l
      · rw [if_pos h8]; exact ⟨_, _, rfl⟩
      · rw [if_neg h8]
        unfold f_X2_isModule
        by_cases hk : k < 0
        · rw [if_pos hk, bs_some]; exact ⟨_, _, rfl⟩
        · rw [if_neg hk]
          by_cases hk2 : cI c 74 0 ≤ k
          · rw [if_pos hk2, bs_some]; exact ⟨_, _, rfl⟩
          · rw [if_neg hk2, bs_some]
            dsimp only
            rw [if_neg ne10, if_neg (nI_nem1 (by omega))]
            exact ⟨_, _, rfl⟩
    have hown : ∀ r, f_X2_ownMethod n c (nI i) nm p = some (r, c) → f_X2_findMethod_L9 n nm p (j + 1 + 1) c (nI i) (-1) (nI l7) = f_X2_findMethod_L9 n nm p (j + 1) c (mA m 27 i) r (nI (l7 + 1)) := fun r hr => by
      rw [u_X2_findMethod_L9, if_neg (show ¬ (8 : Int32) ≤ nI l7 from fun y => absurd ((nI_leI (a := 8) (by decide) (by omega)).mp y) (by omega)), c_isModule hmc8 h74 him, bs_some]
      dsimp only
      rw [if_neg ne10, if_pos rfl, hr, bs_some]
      dsimp only
      rw [c_ld68 (by omega), bs_some, h68, nI_1]
    rcases own2 (n := n) (p := p) (by omega) k1 k3 k4 hnm kM n n 0 (by omega) (by omega) (by omega) with ⟨v, v1, v2, v3⟩ | ⟨v2, v3⟩
    · left
      have h1 := hown (nI v) (by
        unfold f_X2_ownMethod f_X2_ownMethod_J22
        rw [if_neg (show ¬ nI i < 0 from nI_nn (by omega)), h74, if_neg (show ¬ nI mc ≤ nI i from fun y => absurd ((nI_leI (by omega) (by omega)).mp y) (by omega)), c_ld73 (by omega), bs_some, k2, show f_X2_ownMethod_L27 n (nI i) nm p (nI kM) n c 0 = _ from v2, bs_some]
        rfl)
      obtain ⟨x, y, hs⟩ := stp (mA m 27 i) v (nI (l7 + 1)) v1.1
      refine ⟨v, x, y, v1, h1.trans hs, ?_⟩
      rw [u_X12_methodOf_L3, if_neg (nI_nem1 (by omega)), show f_X12_methodOf_L12 n nm2 p (nI i) n m 0 = _ from v3, bs_some]
      rfl
    · have h1 := hown (-1) (by
        unfold f_X2_ownMethod f_X2_ownMethod_J22
        rw [if_neg (show ¬ nI i < 0 from nI_nn (by omega)), h74, if_neg (show ¬ nI mc ≤ nI i from fun y => absurd ((nI_leI (by omega) (by omega)).mp y) (by omega)), c_ld73 (by omega), bs_some, k2, show f_X2_ownMethod_L27 n (nI i) nm p (nI kM) n c 0 = _ from v2, bs_some]
        rfl)
      have h2 : f_X12_methodOf_L3 n nm2 p (j2 + 1 + 1) m (nI i) = f_X12_methodOf_L3 n nm2 p (j2 + 1) m (mA m 27 i) := by
        rw [u_X12_methodOf_L3, if_neg (nI_nem1 (by omega)), show f_X12_methodOf_L12 n nm2 p (nI i) n m 0 = _ from v3, bs_some]
        dsimp only [Sum.elim]
        rw [m_ld27 (by omega), bs_some]
      rw [h1, h2]
      rcases hsup with hm1 | ⟨pp, p1, p2⟩
      · right
        rw [hm1, u_X12_methodOf_L3, if_pos rfl, u_X2_findMethod_L9]
        by_cases h8 : (8 : Int32) ≤ nI (l7 + 1)
        · rw [if_pos h8]; exact ⟨_, _, rfl, rfl⟩
        · rw [if_neg h8]
          unfold f_X2_isModule
          rw [if_pos (show (-1 : Int32) < 0 from by decide), bs_some]
          exact ⟨_, _, rfl, rfl⟩
      · rw [p2]
        exact ih pp (by omega) (by omega) (j + 1) (j2 + 1) (l7 + 1) (by omega) (by omega) (by omega)
/-- Plan.findMethod against methodOf -/
theorem mth_ok {n : Nat} {c : cd_S} {m : md_S} {mc U i : Nat} {nm nm2 : Int64} {p : Int32} (hn : 5000 ≤ n) (h : MDR c m mc) (hM : ∀ i, i < mc → MTH c m U i) (hnm : NR nm nm2) (hi : i < mc) : (∃ v, (v < 60 ∧ v < U ∧ mA m 36 v = 0 ∧ mA m 39 v = p) ∧ f_X2_findMethod n c (nI i) nm p = some (nI v, c) ∧ f_X12_methodOf n m (nI i) nm2 p = some (nI v, m)) ∨ (f_X2_findMethod n c (nI i) nm p = some (-1, c) ∧ f_X12_methodOf n m (nI i) nm2 p = some (-1, m)) := by
  have := h.1
  unfold f_X2_findMethod f_X12_methodOf
  rcases mthO (n := n) (p := p) hn h hM hnm i i (Nat.le_refl _) hi n n 0 (by omega) (by omega) (by omega) with ⟨v, x, y, v1, v2, v3⟩ | ⟨x, y, v2, v3⟩
  · left
    refine ⟨v, v1, ?_, ?_⟩
    · rw [show f_X2_findMethod_L9 n nm p n c (nI i) (-1) 0 = _ from v2, bs_some]
    · rw [v3, bs_some]; rfl
  · right
    refine ⟨?_, ?_⟩
    · rw [show f_X2_findMethod_L9 n nm p n c (nI i) (-1) 0 = _ from v2, bs_some]
    · rw [v3, bs_some]; rfl
theorem PG.mth {n d : Nat} {c c1 : cd_S} {m m1 : md_S} {D : PD} (h : PG n c m d c1 m1 D) : ∀ i, i < d → MTH c m (mN m1 35) i := by
  intro i hi
  obtain ⟨c0, hO, hc⟩ := h.o
  have hm := h.2.2.2.1
  have hb := h.tb.1.1
  obtain ⟨-, -, -, e, -, -, -, -, -, i5, -, i7, i8, -⟩ := hO
  obtain ⟨-, -, -, -, ⟨k, k1, k2, k3, k4⟩, -⟩ := i5.2.2.2 i hi
  refine ⟨k, k1, by rw [(hc 73 (by decide)).2.2.1]; exact k2, by rw [(hm 30 (by decide)).2.2.1]; exact k3, fun x hx => ?_⟩
  obtain ⟨u, u1, u2, u3⟩ := k4 x hx
  have h36 : mA m1 36 u = 0 := by
    have := i8 i hi x (by unfold aN; rw [k3, nI_clamp (by omega)]; exact hx)
    rw [show aN m1 31 (12 * i + x) = u from aN_of u3 (by omega)] at this
    exact this
  obtain ⟨-, -, -, -, -, u6, -⟩ := e u u1
  refine ⟨u, by omega, u1, by rw [(hm 36 (by decide)).2.2.1]; exact h36, by rw [(hc 72 (by decide)).2.2.1]; exact u2, by rw [(hm 31 (by decide)).2.2.1]; exact u3, by rw [(hc 293 (by decide)).2.1, (hm 43 (by decide)).2.2.2]; exact i7 u u1 h36, by rw [(hc 294 (by decide)).1, (hm 39 (by decide)).2.2.1]; exact u6⟩
