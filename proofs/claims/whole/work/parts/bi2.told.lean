/-! what is told of a run -/
def vS (x : Int64) : Int32 := (x.toUInt64 >>> ((32 : Int32).toInt64.toUInt64 &&& Int64.toUInt64 63)).toInt64.toInt32
/-- thread t of K, as it is told -/
def THT (c : cd_S) (m : md_S) (K t : Nat) : Prop := cI c 234 t = mA m 106 t ∧ cI c 233 t = mA m 108 t ∧ cI c 235 t = mA m 107 t ∧ (mA m 107 t = -1 ∨ ∃ y, y < K ∧ mA m 107 t = nI y) ∧
  ((mA m 106 t = 0 ∧ vS (cJ c 236 t) = 1) ∨ (mA m 106 t = 1 ∧ vS (cJ c 236 t) = mA m 109 t ∧ (mA m 109 t = 0 → (cJ c 236 t).toInt32 = mA m 110 t)) ∨ (mA m 106 t = 2 ∧ vS (cJ c 236 t) = 0 ∧ (cJ c 236 t).toInt32 = mA m 110 t))
/-- the events that are kept: E of them -/
def EVT (c : cd_S) (m : md_S) (E : Nat) : Prop := RowOk c 8 ∧ rsz c 8 = 5 * E ∧ E ≤ 200 ∧ (∃ z, z < 2 ^ 31 ∧ mI m 91 = nI z ∧ E = min z 200) ∧ ∀ i, i < 5 * E → cRF c 8 i = (mA m 92 i).toInt64
/-- a run, as it is told -/
def RT (c : cd_S) (m : md_S) : Prop := (cI c 44 0 = mI m 88 ∧ cI c 41 0 = mI m 89 ∧ cI c 43 0 = mI m 91 ∧ cI c 45 0 = mI m 93 ∧ cI c 46 0 = mI m 94) ∧
  (∃ K, K ≤ 8 ∧ cI c 40 0 = nI K ∧ mI m 105 = nI K ∧ ∀ t, t < K → THT c m K t) ∧ (∃ T, T ≤ 2000 ∧ cI c 193 6 = nI (2 * T) ∧ mI m 95 = nI T) ∧ (∃ E, EVT c m E) ∧ ∃ Ls, CTX c m Ls ∧ Ls.length < 4001
def RFl (c : cd_S) (m : md_S) : Prop := (cI c 51 0 = 0 ∧ mI m 86 = 0) ∨ (cI c 51 0 = 1 ∧ mI m 86 = 1 ∧ RT c m)
theorem nI_divk {k d : Nat} (hd : 0 < d) (hd2 : d < 2 ^ 31) (h : d * k < 2 ^ 31) : nI (d * k) / nI d = nI k := by
  apply Int32.toInt_inj.mp
  have hk : k ≤ d * k := Nat.le_mul_of_pos_left k hd
  rw [Int32.toInt_div_of_ne_right _ _ (by
    intro e
    have := congrArg Int32.toInt e
    rw [nI_toInt hd2] at this
    have : (-1 : Int32).toInt = -1 := by decide
    omega), nI_toInt h, nI_toInt hd2, nI_toInt (by omega)]
  rw [← Int.ofNat_tdiv, Nat.mul_div_cancel_left _ hd]
theorem result_ok {n : Nat} {c : cd_S} {m : md_S} {a : Int32} (h : RFl c m) : ∃ v, f_X11_result n c a = some (v, c) ∧ f_X12_result n m a = some (v, mSI m 0 0) := by
  unfold f_X11_result f_X12_result f_X1_tell
  rw [bs_some, mI_SIo (by decide)]
  rcases h with ⟨h1, h2⟩ | ⟨h1, h2, ⟨r1, r2, r3, r4, r5⟩, ⟨K, k1, k2, k3, -⟩, ⟨T, t1, t2, t3⟩, -, ⟨Ls, l1, l2⟩⟩
  · rw [if_pos h1, if_pos h2]; exact ⟨-1, rfl, rfl⟩
  · rw [if_neg (show ¬ cI c 51 0 = 0 by rw [h1]; decide), if_neg (show ¬ mI m 86 = 0 by rw [h2]; decide)]
    have e6 : cI c 193 6 / 2 = mI m 95 := by rw [t2, t3]; exact nI_divk (d := 2) (by decide) (by decide) (by omega)
    have e7 : cI c 193 2 = mI m 130 - 1 := by
      rw [l1.2.1.r2.1, l1.2.1.z2, l1.1.1, List.length_cons, show (1 : Int32) = nI 1 from rfl, nI_sub (by omega)]; rfl
    unfold f_X1_thingCount f_X0_made
    rw [r1, r2, r3, r4, r5, k2, ← k3, e6, e7]
    simp only [mI_SIo (show 88 ≠ 0 by decide), mI_SIo (show 89 ≠ 0 by decide), mI_SIo (show 105 ≠ 0 by decide), mI_SIo (show 91 ≠ 0 by decide), mI_SIo (show 93 ≠ 0 by decide), mI_SIo (show 95 ≠ 0 by decide), mI_SIo (show 94 ≠ 0 by decide), mI_SIo (show 130 ≠ 0 by decide), bs_some]
    by_cases a0 : a = 0
    · simp only [if_pos a0]; exact ⟨_, rfl, rfl⟩
    by_cases a1 : a = 1
    · simp only [if_neg a0, if_pos a1]; exact ⟨_, rfl, rfl⟩
    by_cases a2 : a = 2
    · simp only [if_neg a0, if_neg a1, if_pos a2]; exact ⟨_, rfl, rfl⟩
    by_cases a3 : a = 3
    · simp only [if_neg a0, if_neg a1, if_neg a2, if_pos a3]; exact ⟨_, rfl, rfl⟩
    by_cases a4 : a = 4
    · simp only [if_neg a0, if_neg a1, if_neg a2, if_neg a3, if_pos a4]; exact ⟨_, rfl, rfl⟩
    by_cases a5 : a = 5
    · simp only [if_neg a0, if_neg a1, if_neg a2, if_neg a3, if_neg a4, if_pos a5]; exact ⟨_, rfl, rfl⟩
    by_cases a6 : a = 6
    · simp only [if_neg a0, if_neg a1, if_neg a2, if_neg a3, if_neg a4, if_neg a5, if_pos a6]; exact ⟨_, rfl, rfl⟩
    by_cases a7 : a = 7
    · simp only [if_neg a0, if_neg a1, if_neg a2, if_neg a3, if_neg a4, if_neg a5, if_neg a6, if_pos a7]; exact ⟨_, rfl, rfl⟩
    · simp only [if_neg a0, if_neg a1, if_neg a2, if_neg a3, if_neg a4, if_neg a5, if_neg a6, if_neg a7]; exact ⟨_, rfl, rfl⟩
theorem event_ok {n : Nat} {c : cd_S} {m : md_S} {a a2 : Int32} (h : RFl c m) : ∃ v, f_X11_event n c a a2 = some (v, c) ∧ f_X12_event n m a a2 = some (v, mSI m 0 0) := by
  unfold f_X11_event f_X12_event f_X1_tellEvent f_X12_event_J47 f_X12_event_J48
  rw [bs_some, mI_SIo (by decide), mI_SIo (by decide)]
  rcases h with ⟨h1, h2⟩ | ⟨h1, h2, -, -, -, ⟨E, e1, e2, e3, ⟨z, z1, z2, z3⟩, e5⟩, -⟩
  · rw [if_pos h1, if_pos h2, if_pos rfl]; exact ⟨-1, rfl, rfl⟩
  · rw [if_neg (show ¬ cI c 51 0 = 0 by rw [h1]; decide), if_neg (show ¬ mI m 86 = 0 by rw [h2]; decide), e1.1, e2, show nI (5 * E) / 5 = nI E from nI_divk (d := 5) (by decide) (by decide) (by omega), z2, if_pos (show (0 : Int32) = 0 from rfl)]
    rcases rng_c (a := a) (K := E) (by omega) with ⟨x, r1, r2, r3⟩ | ⟨r1, r2⟩
    · have hx := r1.2
      have hz : ¬ nI z ≤ a := by rw [r1.1]; exact fun y => absurd ((nI_leI z1 (by omega)).mp y) (by omega)
      have h200 : ¬ (200 : Int32) ≤ a := by rw [r1.1]; exact fun y => absurd ((nI_leI (a := 200) (by decide) (by omega)).mp y) (by omega)
      rw [if_neg r2, if_neg r3, if_neg r2, if_neg hz, if_neg h200]
      rcases rng_c (a := a2) (K := 5) (by omega) with ⟨y, q1, q2, q3⟩ | ⟨q1, q2⟩
      · rcases rng_m (n := n) (s := mSI m 0 0) (a := a2) (K := 5) (by omega) with ⟨y', w1, w2⟩ | ⟨w1, w2⟩
        · have hy := q1.2
          rw [show (nI 5 - 1).toInt64 = (4 : Int64) by decide] at w2
          rw [w2, bs_some, if_neg q2, q1.1, if_pos (show nI y < (5 : Int32) from (nI_ltI (b := 5) (by omega) (by decide)).mpr hy), r1.1, show (5 : Int32) = nI 5 from rfl, nI_mul, nI_mul, nI_add, nI_add, Nat.mul_comm x 5, c_at e1 (by omega), if_pos (by omega), bs_some, e5 _ (by omega), i6432]
          dsimp only
          rw [if_neg ne10, if_neg ne10, m_ld92 (by omega), bs_some, bs_some]
          exact ⟨_, rfl, rfl⟩
        · exact absurd q1 (w1 y)
      · rcases rng_m (n := n) (s := mSI m 0 0) (a := a2) (K := 5) (by omega) with ⟨y', w1, w2⟩ | ⟨w1, w2⟩
        · exact absurd w1 (q1 y')
        · rw [show (nI 5 - 1).toInt64 = (4 : Int64) by decide] at w2
          rw [w2, bs_some, if_pos rfl]
          refine ⟨-1, ?_, rfl⟩
          rcases q2 with q2 | ⟨q2, q3⟩
          · rw [if_pos q2]; rfl
          · rw [if_neg q2, if_neg (show ¬ a2 < (5 : Int32) from fun y => absurd (Int32.lt_iff_toInt_lt.mp y) (by have := Int32.le_iff_toInt_le.mp q3; rw [show (5 : Int32) = nI 5 from rfl]; omega))]; rfl
    · refine ⟨-1, ?_, ?_⟩
      · rcases r2 with r2 | ⟨r2, r3⟩
        · rw [if_pos r2]; rfl
        · rw [if_neg r2, if_pos r3]; rfl
      · rcases r2 with r2 | ⟨r2, r3⟩
        · rw [if_pos r2]
        · rw [if_neg r2]
          rcases i32_c a with q | ⟨x, rfl, hx⟩
          · exact absurd q r2
          · have hxE : E ≤ x := (nI_leI (by omega) hx).mp r3
            by_cases hz : z ≤ x
            · rw [if_pos ((nI_leI z1 hx).mpr hz)]
            · rw [if_neg (fun y => hz ((nI_leI z1 hx).mp y)), if_pos (show (200 : Int32) ≤ nI x from (nI_leI (a := 200) (by decide) hx).mpr (by omega))]
theorem c_strandAt {n : Nat} {c : cd_S} {t : Nat} (h : t < 8) : f_X1_strandAt n c (nI t) = some (t, c) := by
  unfold f_X1_strandAt f_X1_strandAt_J19
  rw [if_neg (show ¬ nI t < 0 from nI_nn (by omega)), if_neg (show ¬ (8 : Int32) ≤ nI t from fun y => absurd ((nI_leI (a := 8) (by decide) (by omega)).mp y) (by omega)), c_ld35 h, bs_some, Nat.zero_add]
theorem context_ok {n : Nat} {c : cd_S} {m : md_S} {a a2 : Int32} (h : RFl c m) : ∃ v, f_X11_context n c a a2 = some (v, c) ∧ f_X12_context n m a a2 = some (v, mSI m 0 0) := by
  unfold f_X11_context f_X12_context f_X1_tellContext
  rw [bs_some, mI_SIo (by decide), mI_SIo (by decide)]
  rcases h with ⟨h1, h2⟩ | ⟨h1, h2, -, -, -, -, ⟨Ls, l1, l2⟩⟩
  · rw [if_pos h1, if_pos h2]; exact ⟨-1, rfl, rfl⟩
  · have l3 := l1.2.1.lz
    unfold f_X0_made
    rw [if_neg (show ¬ cI c 51 0 = 0 by rw [h1]; decide), if_neg (show ¬ mI m 86 = 0 by rw [h2]; decide), l1.1.1, List.length_cons, show nI (Ls.length + 1) - 2 = nI Ls.length - 1 by rw [← nI_1]; rw [show (2 : Int32) = 1 + 1 from rfl, ← Int32.sub_sub, Int32.add_sub_cancel], l1.2.1.r2.1, l1.2.1.z2]
    rcases rng_c (a := a) (K := Ls.length) (by omega) with ⟨x, r1, r2, r3⟩ | ⟨r1, r2⟩
    · rcases rng_m (n := n) (s := mSI m 0 0) (a := a) (K := Ls.length) (by omega) with ⟨y, q1, q2⟩ | ⟨q1, q2⟩
      · have hx := r1.2
        have hm := l1.1.2 (x + 1) (by simp; omega)
        rw [List.getElem_cons_succ] at hm
        obtain ⟨m1, m2, m3⟩ := hm
        rw [if_neg r2, q2, bs_some, bs_some, r1.1]
        dsimp only
        rw [if_pos ((nI_ltI (by omega) (by omega)).mpr hx), if_neg ne10, nI_1, m_ld131 (by omega), bs_some, bs_some, mA_SI, m1, c_pCount l1.2.1 hx, bs_some, bs_some]
        dsimp only
        by_cases e : a2 = -1
        · rw [if_pos e, if_pos e]; exact ⟨_, rfl, rfl⟩
        · rw [if_neg e, if_neg e]
          rcases rng_c (a := a2) (K := Ls[x].length) (by omega) with ⟨y, s1, s2, s3⟩ | ⟨s1, s2⟩
          · rcases rng_m (n := n) (s := mSI m 0 0) (a := a2) (K := Ls[x].length) (by omega) with ⟨y', w1, w2⟩ | ⟨w1, w2⟩
            · have hy := s1.2
              rw [w2, bs_some, if_neg s2, if_neg s3, s1.1, c_product l1.2.1 hx hy, bs_some]
              dsimp only
              rw [if_neg ne10, show (16 : Int32) = nI 16 from rfl, nI_mul, nI_add, m_ld132 (by omega), bs_some, mA_SI, m3 y hy]
              exact ⟨_, rfl, rfl⟩
            · exact absurd s1 (w1 y)
          · rcases rng_m (n := n) (s := mSI m 0 0) (a := a2) (K := Ls[x].length) (by omega) with ⟨y', w1, w2⟩ | ⟨w1, w2⟩
            · exact absurd w1 (s1 y')
            · rw [w2, bs_some]
              dsimp only
              rw [if_pos rfl]
              refine ⟨-1, ?_, rfl⟩
              rcases s2 with s2 | ⟨s2, s3⟩
              · rw [if_pos s2]; rfl
              · rw [if_neg s2, if_pos s3]; rfl
      · exact absurd r1 (q1 x)
    · rcases rng_m (n := n) (s := mSI m 0 0) (a := a) (K := Ls.length) (by omega) with ⟨y, q1, q2⟩ | ⟨q1, q2⟩
      · exact absurd q1 (r1 y)
      · rw [q2, bs_some, bs_some]
        dsimp only
        rw [if_pos rfl]
        refine ⟨-1, ?_, rfl⟩
        rcases r2 with r2 | ⟨r2, r3⟩
        · rw [if_pos r2]; rfl
        · rw [if_neg r2, if_neg (show ¬ a < nI Ls.length from fun y => absurd (Int32.lt_iff_toInt_lt.mp y) (by have := Int32.le_iff_toInt_le.mp r3; omega))]; rfl
