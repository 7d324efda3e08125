/-! telling methods -/
/-- there is a plan on both sides, or on neither -/
def PFl (n : Nat) (c : cd_S) (m : md_S) : Prop := (cI c 362 0 = 0 ∧ mI m 5 = 0) ∨ (cI c 362 0 = 1 ∧ mI m 5 = 1 ∧ ∃ d, PLN n c m d)
theorem number_ok {n : Nat} {c : cd_S} {m : md_S} {a : Int32} (h : PFl n c m) : ∃ v, f_X11_number n c a = some (v, c) ∧ f_X12_number n m a = some (v, mSI m 0 0) := by
  unfold f_X11_number f_X12_number f_X2_numberAt
  rw [bs_some, mI_SIo (by decide), mI_SIo (by decide)]
  rcases h with ⟨h1, h2⟩ | ⟨h1, h2, d, hd⟩
  · rw [if_pos h1, if_pos h2]; exact ⟨0, rfl, rfl⟩
  · obtain ⟨-, -, ⟨n1, n2, n3, n4⟩, -⟩ := hd.v
    rw [if_neg (show ¬ cI c 362 0 = 0 by rw [h1]; decide), if_neg (show ¬ mI m 5 = 0 by rw [h2]; decide), n1, n2]
    rcases rng_c (a := a) (K := mN m 58) (by omega) with ⟨x, r1, r2, r3⟩ | ⟨r1, r2⟩
    · rcases rng_m (n := n) (s := mSI m 0 0) (a := a) (K := mN m 58) (by omega) with ⟨y, q1, q2⟩ | ⟨q1, q2⟩
      · rw [if_neg r2, if_neg r3, q2, bs_some, r1.1]
        dsimp only
        have hx := r1.2
        rw [if_neg ne10, c_ld75 (by omega), bs_some, bs_some, m_ld59 (by omega), bs_some]
        exact ⟨_, rfl, by rw [n4 x hx]; rfl⟩
      · exact absurd r1 (q1 x)
    · rcases rng_m (n := n) (s := mSI m 0 0) (a := a) (K := mN m 58) (by omega) with ⟨y, q1, q2⟩ | ⟨q1, q2⟩
      · exact absurd q1 (r1 y)
      · rw [q2, bs_some]
        dsimp only
        rw [if_pos rfl]
        refine ⟨0, ?_, rfl⟩
        rcases r2 with r2 | ⟨r2, r3⟩
        · rw [if_pos r2, bs_some]
        · rw [if_neg r2, if_pos r3, bs_some]
theorem domain_ok {n : Nat} {c : cd_S} {m : md_S} {a : Int32} (h : PFl n c m) : ∃ v, f_X11_domain n c a = some (v, c) ∧ f_X12_domain n m a = some (v, mSI m 0 0) := by
  unfold f_X11_domain f_X12_domain f_X3_domainOf
  rw [bs_some, mI_SIo (by decide), mI_SIo (by decide)]
  rcases h with ⟨h1, h2⟩ | ⟨h1, h2, d, hd⟩
  · rw [if_pos h1, if_pos h2]; exact ⟨-1, rfl, rfl⟩
  · obtain ⟨-, ⟨n1, n2, n3, n4⟩, -⟩ := hd.v
    rw [if_neg (show ¬ cI c 362 0 = 0 by rw [h1]; decide), if_neg (show ¬ mI m 5 = 0 by rw [h2]; decide), n1, n2]
    rcases rng_c (a := a) (K := d) (by omega) with ⟨x, r1, r2, r3⟩ | ⟨r1, r2⟩
    · rcases rng_m (n := n) (s := mSI m 0 0) (a := a) (K := d) (by omega) with ⟨y, q1, q2⟩ | ⟨q1, q2⟩
      · have hx := r1.2
        rw [if_neg r2, if_neg r3, if_neg r2, q2, bs_some, r1.1]
        dsimp only
        rw [if_neg ne10, if_neg (show ¬ (8 : Int32) ≤ nI x from fun y => absurd ((nI_leI (a := 8) (by decide) (by omega)).mp y) (by omega)), c_ld101 (by omega), bs_some, bs_some, m_ld32 (by omega), bs_some]
        exact ⟨_, rfl, by rw [n4 x hx]; rfl⟩
      · exact absurd r1 (q1 x)
    · rcases rng_m (n := n) (s := mSI m 0 0) (a := a) (K := d) (by omega) with ⟨y, q1, q2⟩ | ⟨q1, q2⟩
      · exact absurd q1 (r1 y)
      · rw [q2, bs_some]
        dsimp only
        rw [if_pos rfl]
        refine ⟨-1, ?_, rfl⟩
        rcases r2 with r2 | ⟨r2, r3⟩
        · rw [if_pos r2]
        · rw [if_neg r2, if_pos r3]
/-- both know of unit a, or neither -/
theorem isu_ok {n : Nat} {c : cd_S} {m : md_S} {a : Int32} (h : PFl n c m) : (∃ u d, PLN n c m d ∧ a = nI u ∧ u < mN m 35 ∧ u < 60 ∧ f_X11_hasUnit n c a = some (1, c) ∧ f_X12_isUnit n (mSI m 0 0) a = some (1, mSI m 0 0)) ∨ (f_X11_hasUnit n c a = some (0, c) ∧ f_X12_isUnit n (mSI m 0 0) a = some (0, mSI m 0 0)) := by
  unfold f_X11_hasUnit f_X12_isUnit
  rw [mI_SIo (by decide), mI_SIo (by decide)]
  rcases h with ⟨h1, h2⟩ | ⟨h1, h2, d, hd⟩
  · rw [if_pos h1, if_pos h2]; exact Or.inr ⟨rfl, rfl⟩
  · obtain ⟨⟨n1, n2, n3, -⟩, -⟩ := hd.v
    rw [if_neg (show ¬ cI c 362 0 = 0 by rw [h1]; decide), if_neg (show ¬ mI m 5 = 0 by rw [h2]; decide), n1, n2]
    rcases rng_c (a := a) (K := mN m 35) (by omega) with ⟨x, r1, r2, r3⟩ | ⟨r1, r2⟩
    · rcases rng_m (n := n) (s := mSI m 0 0) (a := a) (K := mN m 35) (by omega) with ⟨y, q1, q2⟩ | ⟨q1, q2⟩
      · have hx := r1.2
        rw [if_neg r2, if_neg r3, q2, bs_some]
        exact Or.inl ⟨x, d, hd, r1.1, hx, by omega, rfl, rfl⟩
      · exact absurd r1 (q1 x)
    · rcases rng_m (n := n) (s := mSI m 0 0) (a := a) (K := mN m 35) (by omega) with ⟨y, q1, q2⟩ | ⟨q1, q2⟩
      · exact absurd q1 (r1 y)
      · rw [q2, bs_some]
        right
        refine ⟨?_, rfl⟩
        rcases r2 with r2 | ⟨r2, r3⟩
        · rw [if_pos r2]
        · rw [if_neg r2, if_pos r3]
/-- how long a unit's code is -/
theorem PLV.len {n : Nat} {c : cd_S} {m : md_S} {d u : Nat} {C : Nat × Nat} {b : cd_B} (h : PLV n c m d) (hB : Bd C c b) (hu : u < mN m 35) (R : Bool) : ∃ bs p, rL c (cRw u R) = bs.map i64 ∧ p + bs.length ≤ 77990 ∧ MPL m u (kR R) p bs ∧ (∀ x, x ∈ bs → x < 256) ∧ RowOk c (cRw u R) ∧ cI c 193 (cRw u R) = nI bs.length := by
  have h35 := h.1.2.2.1
  obtain ⟨-, -, -, -, -, -, -, hc⟩ := h.2.2.2.2.2 u hu
  obtain ⟨bs, p, q1, q2, q3, q4⟩ := hc R
  have hr : RowOk c (cRw u R) := hB.1 _ (by unfold cRw; split <;> omega)
  refine ⟨bs, p, q1, q2, q3, q4, hr, ?_⟩
  have e := rL_len c (cRw u R)
  rw [q1, List.length_map] at e
  rw [hr.1, e]
theorem unit_ok {n : Nat} {c : cd_S} {m : md_S} {C : Nat × Nat} {b : cd_B} {a w : Int32} (h : PFl n c m) (hB : Bd C c b) : ∃ v, f_X11_unit n c a w = some (v, c) ∧ f_X12_unit n m a w = some (v, mSI m 0 0) := by
  unfold f_X11_unit f_X12_unit
  rw [bs_some]
  rcases isu_ok (n := n) (a := a) h with ⟨u, d, hd, rfl, hu, hu60, e1, e2⟩ | ⟨e1, e2⟩
  · rw [e1, e2, bs_some, bs_some]
    dsimp only
    rw [if_neg ne10, if_neg ne10, c_unitAt hu60, bs_some]
    dsimp only
    have hv := hd.v
    obtain ⟨v1, v2, v3, v4, v5, v6, v7, -⟩ := hv.2.2.2.2.2 u hu
    have h50 := hv.1.2.2.2
    unfold f_X9_tell
    by_cases w0 : w = 0
    · rw [if_pos w0, if_pos w0, bs_some, m_ld36 hu60, bs_some]; exact ⟨_, rfl, by rw [v1]; rfl⟩
    rw [if_neg w0, if_neg w0]
    by_cases w1 : w = 1
    · rw [if_pos w1, if_pos w1, bs_some, m_ld37 hu60, bs_some]; exact ⟨_, rfl, by rw [v2]; rfl⟩
    rw [if_neg w1, if_neg w1]
    by_cases w2 : w = 2
    · rw [if_pos w2, if_pos w2, bs_some, m_ld38 hu60, bs_some]; exact ⟨_, rfl, by rw [v3]; rfl⟩
    rw [if_neg w2, if_neg w2]
    by_cases w3 : w = 3
    · rw [if_pos w3, if_pos w3, bs_some, m_ld39 hu60, bs_some]; exact ⟨_, rfl, by rw [v4]; rfl⟩
    rw [if_neg w3, if_neg w3]
    by_cases w4 : w = 4
    · rw [if_pos w4, if_pos w4, bs_some, m_ld44 hu60, bs_some]; exact ⟨_, rfl, by rw [v5]; rfl⟩
    rw [if_neg w4, if_neg w4]
    by_cases w5 : w = 5
    · have fm : md_fr [0] m (mSI m 0 0) := md_fr_SI (md_fr_refl _ _) (by decide) _
      have hlu : LU c (mSI m 0 0) u := v7.to (CE.refl _ _) (ME.of fm (by decide))
      obtain ⟨L, l1, l2, l3⟩ := locs_ok (n := n) hu60 hlu (by rw [mN_fr fm (by decide)]; exact h50)
      rw [if_pos w5, if_pos w5, l2 c hlu, bs_some, bs_some, l3 _ (md_fr_refl _ _), bs_some]
      exact ⟨_, rfl, rfl⟩
    rw [if_neg w5, if_neg w5]
    by_cases w6 : w = 6
    · rw [if_pos w6, if_pos w6, m_ld47 hu60, bs_some]
      have e47 : mA (mSI m 0 0) 47 u = mA m 47 u := rfl
      by_cases h1 : cI c 301 u = 0
      · have h2 : mA m 47 u = 0 := by
          by_cases h2 : mA m 47 u = 0
          · exact h2
          · exact absurd h1 (v6.mpr h2)
        rw [if_pos h1, e47, if_pos h2, bs_some]; exact ⟨0, rfl, rfl⟩
      · rw [if_neg h1, e47, if_neg (v6.mp h1), bs_some]; exact ⟨1, rfl, rfl⟩
    rw [if_neg w6, if_neg w6]
    by_cases w7 : w = 7
    · obtain ⟨bs, p, q1, q2, q3, q4, q5, q6⟩ := hv.len hB hu false
      have e76 : mA (mSI m 0 0) 76 (2 * u) = nI p := q3.1
      have e77 : mA (mSI m 0 0) 77 (2 * u) = nI (p + bs.length) := q3.2.1
      rw [if_pos w7, if_pos w7, bs_some, show (2 : Int32) = nI 2 from rfl, nI_mul, m_ld77 (by omega), bs_some, m_ld76 (by omega), bs_some, e76, e77, nI_sub (by omega)]
      refine ⟨nI bs.length, by rw [show cI c 193 (18 + 3 * u) = _ from q6], ?_⟩
      rw [show p + bs.length - p = bs.length by omega]
    rw [if_neg w7, if_neg w7]
    by_cases w8 : w = 8
    · obtain ⟨bs, p, q1, q2, q3, q4, q5, q6⟩ := hv.len hB hu true
      have e76 : mA (mSI m 0 0) 76 (2 * u + 1) = nI p := q3.1
      have e77 : mA (mSI m 0 0) 77 (2 * u + 1) = nI (p + bs.length) := q3.2.1
      rw [if_pos w8, if_pos w8, bs_some, show (2 : Int32) = nI 2 from rfl, nI_mul, show (1 : Int32) = nI 1 from rfl, nI_add, m_ld77 (by omega), bs_some, m_ld76 (by omega), bs_some, e76, e77, nI_sub (by omega)]
      refine ⟨nI bs.length, by rw [show cI c 193 (19 + 3 * u) = _ from q6], ?_⟩
      rw [show p + bs.length - p = bs.length by omega]
    rw [if_neg w8, if_neg w8, bs_some]
    exact ⟨-1, rfl, rfl⟩
  · rw [e1, e2, bs_some, bs_some]
    dsimp only
    rw [if_pos rfl, if_pos rfl]
    exact ⟨-1, rfl, rfl⟩
theorem sb_255a : ∀ i, i < 16 → ∀ j, j < 16 → sb (16 * i + j) &&& 255 = nI (16 * i + j) := by decide
theorem sb_255 (b : Nat) (h : b < 256) : sb b &&& 255 = nI b := by
  have := sb_255a (b / 16) (by omega) (b % 16) (by omega)
  rw [show 16 * (b / 16) + b % 16 = b by omega] at this
  exact this
theorem i64_32 {b : Nat} (h : b < 256) : (i64 b).toInt32 = nI b := by
  unfold i64
  rw [i32_64]
theorem code_ok {n : Nat} {c : cd_S} {m : md_S} {C : Nat × Nat} {b : cd_B} {a r w : Int32} (h : PFl n c m) (hB : Bd C c b) : ∃ v, f_X11_code n c a r w = some (v, c) ∧ f_X12_code n m a r w = some (v, mSI m 0 0) := by
  unfold f_X11_code f_X12_code
  rw [bs_some]
  rcases isu_ok (n := n) (a := a) h with ⟨u, d, hd, rfl, hu, hu60, e1, e2⟩ | ⟨e1, e2⟩
  · rw [e1, e2, bs_some, bs_some]
    dsimp only
    rw [if_neg ne10, if_neg ne10, c_unitAt hu60, bs_some]
    dsimp only
    have key : ∀ R : Bool, ∃ v, f_X11_code_J37 n c w (cRw u R) = some (v, c) ∧ f_X12_code_J27 n (mSI m 0 0) w (nI (kR R)) (nI 2 * nI u) = some (v, mSI m 0 0) := by
      intro R
      obtain ⟨bs, p, q1, q2, q3, q4, q5, q6⟩ := hd.v.len hB hu R
      have hk := kR_le R
      have e76 : mA (mSI m 0 0) 76 (2 * u + kR R) = nI p := q3.1
      have e77 : mA (mSI m 0 0) 77 (2 * u + kR R) = nI (p + bs.length) := q3.2.1
      unfold f_X11_code_J37 f_X12_code_J27
      rw [nI_mul, nI_add, m_ld77 (by omega), bs_some, m_ld76 (by omega), bs_some, e76, e77, nI_sub (by omega), show p + bs.length - p = bs.length by omega, q6]
      rcases rng_c (a := w) (K := bs.length) (by omega) with ⟨x, r1, r2, r3⟩ | ⟨r1, r2⟩
      · rcases rng_m (n := n) (s := mSI m 0 0) (a := w) (K := bs.length) (by omega) with ⟨y, z1, z2⟩ | ⟨z1, z2⟩
        · have hx := r1.2
          have hbx : bs.getD x 0 < 256 := q4 _ (by rw [List.getD_eq_getElem?_getD, List.getElem?_eq_getElem hx]; exact List.getElem_mem hx)
          rw [if_neg r2, if_neg r3, z2, bs_some, r1.1]
          dsimp only
          rw [if_neg ne10, c_atL q5 (by omega), bs_some, m_ld76 (by omega), bs_some, e76, nI_add, m_ld74 (by omega), bs_some, q1]
          have e74 : mA (mSI m 0 0) 74 (p + x) = sb (bs.getD x 0) := q3.2.2 x hx
          refine ⟨nI (bs.getD x 0), ?_, by rw [e74, sb_255 _ hbx]⟩
          have : (bs.map i64).getD x 0 = i64 (bs.getD x 0) := by
            rw [List.getD_eq_getElem?_getD, List.getElem?_map, List.getElem?_eq_getElem hx, List.getD_eq_getElem?_getD, List.getElem?_eq_getElem hx]
            rfl
          rw [this, i64_32 hbx]
        · exact absurd r1 (z1 x)
      · rcases rng_m (n := n) (s := mSI m 0 0) (a := w) (K := bs.length) (by omega) with ⟨y, z1, z2⟩ | ⟨z1, z2⟩
        · exact absurd z1 (r1 y)
        · rw [z2, bs_some]
          dsimp only
          rw [if_pos rfl]
          refine ⟨-1, ?_, rfl⟩
          rcases r2 with r2 | ⟨r2, r3⟩
          · rw [if_pos r2]
          · rw [if_neg r2, if_pos r3]
    by_cases hr : r = 0
    · rw [if_pos hr, if_pos hr]; exact key false
    · rw [if_neg hr, if_neg hr]; exact key true
  · rw [e1, e2, bs_some, bs_some]
    dsimp only
    rw [if_pos rfl, if_pos rfl]
    exact ⟨-1, rfl, rfl⟩
