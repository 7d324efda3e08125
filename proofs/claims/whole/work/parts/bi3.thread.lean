/-! a thread is told -/
theorem thread_ok {n : Nat} {c : cd_S} {m : md_S} {a a2 : Int32} (h : RFl c m) : ∃ v, f_X11_thread n c a a2 = some (v, c) ∧ f_X12_thread n m a a2 = some (v, mSI m 0 0) := by
  unfold f_X11_thread f_X12_thread f_X1_tellThread
  rw [bs_some, mI_SIo (by decide), mI_SIo (by decide)]
  rcases h with ⟨h1, h2⟩ | ⟨h1, h2, -, ⟨K, k1, k2, k3, k4⟩, -⟩
  · rw [if_pos h1, if_pos h2]; exact ⟨-1, rfl, rfl⟩
  · rw [if_neg (show ¬ cI c 51 0 = 0 by rw [h1]; decide), if_neg (show ¬ mI m 86 = 0 by rw [h2]; decide), k2, k3]
    rcases rng_c (a := a) (K := K) (by omega) with ⟨x, r1, r2, r3⟩ | ⟨r1, r2⟩
    · rcases rng_m (n := n) (s := mSI m 0 0) (a := a) (K := K) (by omega) with ⟨y, q1, q2⟩ | ⟨q1, q2⟩
      · have hx := r1.2
        obtain ⟨t1, t2, t3, t4, t5⟩ := k4 x hx
        rw [q2, if_neg r2, r1.1, if_pos ((nI_ltI (by omega) (by omega)).mpr hx), c_strandAt (by omega), bs_some, bs_some]
        dsimp only
        rw [if_neg (ne10)]
        unfold f_X1_sortOf f_X12_thread_J100 f_X12_thread_J163
        simp only [m_ld106 (s := mSI m 0 0) (i := x) (by omega), m_ld107 (s := mSI m 0 0) (i := x) (by omega), m_ld108 (s := mSI m 0 0) (i := x) (by omega), m_ld109 (s := mSI m 0 0) (i := x) (by omega), m_ld110 (s := mSI m 0 0) (i := x) (by omega), bs_some, mA_SI, t1, t2, t3]
        change ∃ v, Option.bind (if a2 = 0 then _ else _) _ = _ ∧ _
        by_cases a0 : a2 = 0
        · simp only [if_pos a0]; exact ⟨_, rfl, rfl⟩
        by_cases a1 : a2 = 1
        · simp only [if_neg a0, if_pos a1]
          rcases t5 with ⟨e1, e2⟩ | ⟨e1, e2, e3⟩ | ⟨e1, e2, e3⟩
          · have e2' := e2
            unfold vS at e2'
            rw [e2', e1, if_neg ne10, if_neg (by decide), if_neg (by decide)]
            exact ⟨_, rfl, rfl⟩
          · have e2' := e2
            unfold vS at e2'
            rw [e2', e1, if_neg (show ¬ (1 : Int32) = 2 by decide), if_pos rfl]
            by_cases e4 : mA m 109 x = 0
            · rw [if_pos e4, if_pos e4, e3 e4]; exact ⟨_, rfl, rfl⟩
            · rw [if_neg e4, if_neg e4]; exact ⟨_, rfl, rfl⟩
          · have e2' := e2
            unfold vS at e2'
            rw [e2', e1, if_pos rfl, if_pos rfl, e3]
            exact ⟨_, rfl, rfl⟩
        by_cases a2' : a2 = 2
        · simp only [if_neg a0, if_neg a1, if_pos a2']
          by_cases e1 : mA m 106 x = 1
          · rw [if_pos e1, if_pos e1]
            rcases t5 with ⟨f1, e2⟩ | ⟨f1, e2, e3⟩ | ⟨f1, e2, e3⟩
            · rw [f1] at e1; exact absurd e1 (by decide)
            · unfold vS at e2
              rw [e2]; exact ⟨_, rfl, rfl⟩
            · rw [f1] at e1; exact absurd e1 (by decide)
          · rw [if_neg e1, if_neg e1]; exact ⟨_, rfl, rfl⟩
        by_cases a3 : a2 = 3
        · simp only [if_neg a0, if_neg a1, if_neg a2', if_pos a3]; exact ⟨_, rfl, rfl⟩
        by_cases a4 : a2 = 4
        · simp only [if_neg a0, if_neg a1, if_neg a2', if_neg a3, if_pos a4]
          rcases t4 with e | ⟨z, z1, z2⟩
          · rw [if_pos e, if_pos e]; exact ⟨_, rfl, rfl⟩
          · have z3 := (k4 z z1).1
            have z4 : ¬ mA m 107 x = -1 := by
              rw [z2]; intro e
              have := congrArg Int32.toInt e
              rw [nI_toInt (by omega)] at this
              have : (-1 : Int32).toInt = -1 := by decide
              omega
            rw [if_neg z4, if_neg z4, z2, m_ld106 (by omega), bs_some, mA_SI]
            unfold f_X1_hasEnded
            rw [c_strandAt (by omega), bs_some]
            dsimp only
            rw [z3]
            by_cases e : mA m 106 z = 0
            · rw [if_pos e, if_pos e, bs_some]
              dsimp only
              rw [if_pos rfl, t3, z2]; exact ⟨_, rfl, rfl⟩
            · rw [if_neg e, if_neg e, bs_some]
              dsimp only
              rw [if_neg ne10]; exact ⟨_, rfl, rfl⟩
        · simp only [if_neg a0, if_neg a1, if_neg a2', if_neg a3, if_neg a4]; exact ⟨_, rfl, rfl⟩
      · exact absurd r1 (q1 x)
    · rcases rng_m (n := n) (s := mSI m 0 0) (a := a) (K := K) (by omega) with ⟨y, q1, q2⟩ | ⟨q1, q2⟩
      · exact absurd q1 (r1 y)
      · rw [q2, bs_some]
        dsimp only
        rw [if_pos rfl]
        refine ⟨-1, ?_, rfl⟩
        rcases r2 with r2 | ⟨r2, r3⟩
        · rw [if_pos r2]; rfl
        · rw [if_neg r2, if_neg (show ¬ a < nI K from fun y => absurd (Int32.lt_iff_toInt_lt.mp y) (by have := Int32.le_iff_toInt_le.mp r3; omega))]; rfl
