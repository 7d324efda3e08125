/-! where a variable is among those captured -/
theorem c_ciL {n : Nat} {c : cd_S} {u K : Nat} {key : Int32} (h : cI c 299 u = nI K) (hK : K ≤ 13) : ∀ (d j x : Nat), x + d = K → d < j → (∃ y, x ≤ y ∧ y < K ∧ cAr c 300 u y = key ∧ (∀ z, x ≤ z → z < y → cAr c 300 u z ≠ key) ∧ f_X9_captureIndex_L2 n u key j c (nI x) = some (Sum.inl (nI y, c))) ∨ ((∀ y, x ≤ y → y < K → cAr c 300 u y ≠ key) ∧ f_X9_captureIndex_L2 n u key j c (nI x) = some (Sum.inr (c, nI K))) := by
  intro d
  induction d with
  | zero =>
    intro j x hx hj
    obtain ⟨j, rfl⟩ : ∃ r, j = r + 1 := ⟨j - 1, by omega⟩
    obtain rfl : x = K := by omega
    right
    refine ⟨fun y h1 h2 => by omega, ?_⟩
    rw [u_X9_captureIndex_L2, h, if_pos ((nI_leI (by omega) (by omega)).mpr (Nat.le_refl _))]
  | succ d ih =>
    intro j x hx hj
    obtain ⟨j, rfl⟩ : ∃ r, j = r + 1 := ⟨j - 1, by omega⟩
    rw [u_X9_captureIndex_L2, h, if_neg (fun y => absurd ((nI_leI (by omega) (by omega)).mp y) (by omega)), c_ld300 (by omega), bs_some]
    by_cases hk : cAr c 300 u x = key
    · left
      exact ⟨x, Nat.le_refl _, by omega, hk, fun z h1 h2 => by omega, by rw [if_pos hk]⟩
    · rw [if_neg hk, nI_1]
      rcases ih j (x + 1) (by omega) (by omega) with ⟨y, y1, y2, y3, y4, y5⟩ | ⟨y1, y2⟩
      · left
        refine ⟨y, by omega, y2, y3, fun z h1 h2 => ?_, y5⟩
        by_cases hz : z = x
        · rw [hz]; exact hk
        · exact y4 z (by omega) h2
      · right
        refine ⟨fun y h1 h2 => ?_, y2⟩
        by_cases hz : y = x
        · rw [hz]; exact hk
        · exact y1 y (by omega) h2
theorem m_loL {n : Nat} {m σ : md_S} {u K : Nat} {v : Int32} (hf : md_fr [74, 75, 76, 77, 78, 79] m σ) (hu : u < 60) (h : mA m 44 u = nI K) (hK : K ≤ 13) : ∀ (d j x : Nat), x + d = K → d < j → (∃ y, x ≤ y ∧ y < K ∧ mA m 45 (16 * u + y) = v ∧ (∀ z, x ≤ z → z < y → mA m 45 (16 * u + z) ≠ v) ∧ f_X12_localOf_L2 n (nI u) v j σ (nI x) = some (Sum.inl (nI y, σ))) ∨ ((∀ y, x ≤ y → y < K → mA m 45 (16 * u + y) ≠ v) ∧ f_X12_localOf_L2 n (nI u) v j σ (nI x) = some (Sum.inr (σ, nI K))) := by
  intro d
  induction d with
  | zero =>
    intro j x hx hj
    obtain ⟨j, rfl⟩ : ∃ r, j = r + 1 := ⟨j - 1, by omega⟩
    obtain rfl : x = K := by omega
    right
    refine ⟨fun y h1 h2 => by omega, ?_⟩
    rw [u_X12_localOf_L2, m_ld44 hu, bs_some, md_frA hf (by decide), h, if_pos ((nI_leI (by omega) (by omega)).mpr (Nat.le_refl _))]
  | succ d ih =>
    intro j x hx hj
    obtain ⟨j, rfl⟩ : ∃ r, j = r + 1 := ⟨j - 1, by omega⟩
    rw [u_X12_localOf_L2, m_ld44 hu, bs_some, md_frA hf (by decide), h, if_neg (fun y => absurd ((nI_leI (by omega) (by omega)).mp y) (by omega)), show (16 : Int32) = nI 16 from rfl, nI_mul, nI_add, m_ld45 (by omega), bs_some, md_frA hf (by decide)]
    by_cases hk : mA m 45 (16 * u + x) = v
    · left
      exact ⟨x, Nat.le_refl _, by omega, hk, fun z h1 h2 => by omega, by rw [if_pos hk]⟩
    · rw [if_neg hk, nI_1]
      rcases ih j (x + 1) (by omega) (by omega) with ⟨y, y1, y2, y3, y4, y5⟩ | ⟨y1, y2⟩
      · left
        refine ⟨y, by omega, y2, y3, fun z h1 h2 => ?_, y5⟩
        by_cases hz : z = x
        · rw [hz]; exact hk
        · exact y4 z (by omega) h2
      · right
        refine ⟨fun y h1 h2 => ?_, y2⟩
        by_cases hz : y = x
        · rw [hz]; exact hk
        · exact y1 y (by omega) h2
/-- what of a unit says where its variables are -/
def LU (c : cd_S) (m : md_S) (i : Nat) : Prop := (∃ p, p ≤ 3 ∧ mA m 39 i = nI p) ∧ (∃ q, mA m 46 i = nI q ∧ q ≤ mN m 50 ∧ cI c 298 i = nI (ub m i + q)) ∧ ∃ q, q ≤ 13 ∧ cI c 299 i = nI q ∧ mA m 44 i = nI q ∧ ∀ x, x < q → ∃ v, v < mN m 50 ∧ mA m 45 (16 * i + x) = nI v ∧ cAr c 300 i x = kv m v ∧ aN m 51 v < i
theorem UR.lu {c : cd_S} {m : md_S} {i : Nat} (h : UR c m i) : LU c m i := by
  obtain ⟨-, -, -, -, -, -, h1, -, h2, h3, -, -⟩ := h
  exact ⟨h1, h2, h3⟩
theorem LU.fr {c c' : cd_S} {m : md_S} {i : Nat} {F R : List Nat} (h : LU c m i) (hf : cd_fr F R c c') (hF : ∀ x, x ∈ [298, 299, 300] → x ∉ F) : LU c' m i := by
  obtain ⟨h1, ⟨q, q1, q2, q3⟩, ⟨K, k1, k2, k3, k4⟩⟩ := h
  refine ⟨h1, ⟨q, q1, q2, by rw [cd_frI hf (hF 298 (by decide)) (by decide)]; exact q3⟩, ⟨K, k1, by rw [cd_frI hf (hF 299 (by decide)) (by decide)]; exact k2, k3, fun x hx => ?_⟩⟩
  obtain ⟨v, v1, v2, v3, v4⟩ := k4 x hx
  exact ⟨v, v1, v2, by rw [cd_frA hf (hF 300 (by decide)) (by decide)]; exact v3, v4⟩
/-- both find a variable that the unit has at the same local -/
theorem lo_ok {n : Nat} {c : cd_S} {m : md_S} {u v : Nat} (hn : 100 ≤ n) (hu : u < 60) (h288 : cI c 288 u = nI u) (hur : LU c m u) (h50 : mN m 50 ≤ 500) (hv : v < mN m 50) (hvr : ∀ w, w < mN m 50 → VR m w) (h35 : mN m 35 ≤ 60) (hown : aN m 46 (aN m 51 v) ≤ 900) (hub : ub m (aN m 51 v) ≤ 4) (ho : OC m u v) : ∃ w, w < 2000 ∧ f_X9_localOf n c u (kv m v) = some (nI w, c) ∧ ∀ σ, md_fr [74, 75, 76, 77, 78, 79] m σ → f_X12_localOf n σ (nI u) (nI v) = some (nI w, σ) := by
  obtain ⟨⟨p39, q39, r39⟩, -, ⟨K, k1, k2, k3, k4⟩⟩ := hur
  obtain ⟨⟨o, o1, o2⟩, ⟨q53, s1, s2⟩, s3, s4⟩ := hvr v hv
  have ea : aN m 51 v = o := aN_of o2 (by omega)
  rw [ea] at hown hub
  have hvI : vI m v < 1024 := by rw [ea] at s3; omega
  have hdiv : kv m v / 1024 = nI o := by unfold kv; rw [ea]; exact nI_div (by omega) hvI
  have inj : ∀ w, w < mN m 50 → kv m w = kv m v → w = v := by
    intro w hw e
    rcases Nat.lt_trichotomy w v with hl | hl | hl
    · exact absurd e (s4 w hl)
    · exact hl
    · exact absurd e.symm ((hvr w hw).2.2.2 v hl)
  have hiff : ∀ y, y < K → (cAr c 300 u y = kv m v ↔ mA m 45 (16 * u + y) = nI v) := by
    intro y hy
    obtain ⟨w, w1, w2, w3, w4⟩ := k4 y hy
    rw [w2, w3]
    constructor
    · intro e; rw [inj w w1 e]
    · intro e
      have : w = v := (nI_eq (by omega) (by omega)).mp e
      rw [this]
  unfold f_X9_localOf f_X9_ownerOf
  rw [bs_some]
  dsimp only
  rw [hdiv, h288]
  by_cases hou : o = u
  · have hno : ∀ y, y < K → mA m 45 (16 * u + y) ≠ nI v := by
      intro y hy e
      obtain ⟨w, w1, w2, w3, w4⟩ := k4 y hy
      have : w = v := (nI_eq (by omega) (by omega)).mp (w2.symm.trans e)
      rw [this, ea] at w4
      omega
    refine ⟨K + vI m v, by omega, ?_, fun σ hf => ?_⟩
    · rw [if_pos (by rw [hou]), k2]
      have e1 : nI o * 1024 = nI (o * 1024) := by rw [show (1024 : Int32) = nI 1024 from rfl, nI_mul]
      have e2 : kv m v - nI (o * 1024) = nI (vI m v) := by
        unfold kv
        rw [ea, nI_sub (by omega)]
        congr 1
        omega
      rw [e1, e2, nI_add]
    · unfold f_X12_localOf
      rcases m_loL (n := n) (v := nI v) hf hu k3 k1 K n 0 (by omega) (by omega) with ⟨y, y1, y2, y3, -⟩ | ⟨-, y2⟩
      · exact absurd y3 (hno y y2)
      · rw [show f_X12_localOf_L2 n (nI u) (nI v) n σ 0 = _ from y2, bs_some]
        dsimp only [Sum.elim]
        rw [m_ld44 hu, bs_some, m_ld53 (by omega), bs_some, m_ld54 (by omega), bs_some, md_frA hf (by decide), md_frA hf (by decide), md_frA hf (by decide), k3, s2, nI_add]
        unfold f_X12_localOf_J77 f_X12_localOf_J82
        have hvi : vI m v = (if mA m 54 v = 0 then 0 else (if mA m 36 u = 0 then 1 else 0) + p39) + q53 := by
          unfold vI ub
          rw [ea, hou, aN_of r39 (by omega), aN_of s2 (by omega)]
        by_cases h54 : mA m 54 v = 0
        · rw [if_pos h54, show (0 : Int32) = nI 0 from rfl, nI_add, hvi, if_pos h54]
          congr 3
          omega
        · rw [if_neg h54, m_ld39 hu, bs_some, m_ld36 hu, bs_some, md_frA hf (by decide), md_frA hf (by decide), r39]
          by_cases h36 : mA m 36 u = 0
          · rw [if_pos h36, show (1 : Int32) = nI 1 from rfl, nI_add, nI_add, hvi, if_neg h54, if_pos h36]
            congr 3
            omega
          · rw [if_neg h36, show (0 : Int32) = nI 0 from rfl, nI_add, nI_add, hvi, if_neg h54, if_neg h36]
            congr 3
            omega
  · rcases ho with ho | ⟨y0, y1, y2⟩
    · exact absurd (ea.symm.trans ho) hou
    · rw [aN_of k3 (by omega)] at y1
      have hy0 : mA m 45 (16 * u + y0) = nI v := by
        obtain ⟨w, w1, w2, w3, w4⟩ := k4 y0 y1
        rw [aN_of w2 (by omega)] at y2
        rw [w2, y2]
      rcases c_ciL (n := n) (key := kv m v) k2 k1 K n 0 (by omega) (by omega) with ⟨y, z1, z2, z3, z4, z5⟩ | ⟨z1, -⟩
      · refine ⟨y, by omega, ?_, fun σ hf => ?_⟩
        · rw [if_neg (fun e => hou ((nI_eq (by omega) (by omega)).mp e))]
          unfold f_X9_captureIndex
          rw [show f_X9_captureIndex_L2 n u (kv m v) n c 0 = _ from z5, bs_some]
          rfl
        · unfold f_X12_localOf
          rcases m_loL (n := n) (v := nI v) hf hu k3 k1 K n 0 (by omega) (by omega) with ⟨t, t1, t2, t3, t4, t5⟩ | ⟨t1, -⟩
          · have : t = y := by
              rcases Nat.lt_trichotomy t y with hl | hl | hl
              · exact absurd ((hiff t t2).mpr t3) (z4 t (by omega) hl)
              · exact hl
              · exact absurd ((hiff y z2).mp z3) (t4 y (by omega) hl)
            rw [show f_X12_localOf_L2 n (nI u) (nI v) n σ 0 = _ from t5, bs_some, this]
            rfl
          · exact absurd hy0 (t1 y0 (by omega) y1)
      · exact absurd ((hiff y0 y1).mpr hy0) (z1 y0 (by omega) y1)
