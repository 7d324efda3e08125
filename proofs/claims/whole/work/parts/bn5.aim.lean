/-! an asking with an index: both make the same pattern -/
def dgc (v : Nat) (p : Int32) : Int32 := (48 : Int32) + ((nI v / p) - (nI v / p) / (10 : Int32) * (10 : Int32))
def cs5 (v : Nat) (p : Int32) (x : Int64) : Int64 := if p ≤ nI v then s64 x (dgc v p) else if p = 1 then s64 x (dgc v p) else x
def cD5 (v : Nat) : Int64 := cs5 v 1 (cs5 v 10 (cs5 v 100 0))
def mD5 (v : Nat) : Int64 := if nI v ≤ (99 : Int32) then (if nI v ≤ (9 : Int32) then s37 0 (dgc v 1) else s37 (s37 0 (dgc v 10)) (dgc v 1)) else s37 (s37 (s37 0 (dgc v 100)) (dgc v 10)) (dgc v 1)
def dig5 (v : Nat) : List Nat := if v < 10 then [v + 27] else if v < 100 then [v % 10 + 27, v / 10 + 27] else [v % 10 + 27, v / 10 % 10 + 27, v / 100 + 27]
theorem dg5 : ∀ v : Fin 1000, (cD5 v.val = lN (vr 64 (dig5 v.val)) ∧ mD5 v.val = lN (vr 37 (dig5 v.val))) ∧ ((dig5 v.val).length ≤ 8 ∧ ∀ d ∈ dig5 v.val, 1 ≤ d ∧ d ≤ 36) ∧ (isA (dgc v.val 100) ∧ isA (dgc v.val 10) ∧ isA (dgc v.val 1)) := by decide +kernel
theorem NR5 {v : Nat} (h : v < 1000) : NR (cD5 v) (mD5 v) := by
  obtain ⟨⟨a, b⟩, ⟨c, d⟩, -⟩ := dg5 ⟨v, h⟩
  exact ⟨dig5 v, c, d, a, b⟩
theorem c_adL {n v r j : Nat} {c : cd_S} {x : Int64} {p : Int32} (h0 : ¬ p ≤ 0) (hz : p ≠ 0) : f_X5_addDigits_L6 n r (nI v) (j + 1) c x p = f_X5_addDigits_L6 n r (nI v) j c (cs5 v p x) (p / 10) := by
  have nz : md_nz p = some 0 := if_neg hz
  rw [u_X5_addDigits_L6, if_neg h0]
  unfold cs5 dgc f_X5_addDigits_J23 f_X5_addDigits_J38
  by_cases q : p ≤ nI v
  · rw [if_pos q, if_pos q, nz, bs_some, c_codeWith, bs_some]
  · rw [if_neg q, if_neg q]
    by_cases q1 : p = 1
    · rw [if_pos q1, if_pos q1, nz, bs_some, c_codeWith, bs_some]
    · rw [if_neg q1, if_neg q1]
theorem c_adLs {n v r j : Nat} {c : cd_S} : f_X5_addDigits_L6 n r (nI v) (j + 4) c 0 100 = some (c, cD5 v, 0) := by
  rw [show j + 4 = j + 3 + 1 from rfl, c_adL (by decide) (by decide), show (100 : Int32) / 10 = 10 by decide, show j + 3 = j + 2 + 1 from rfl, c_adL (by decide) (by decide), show (10 : Int32) / 10 = 1 by decide, show j + 2 = j + 1 + 1 from rfl, c_adL (by decide) (by decide), show (1 : Int32) / 10 = 0 by decide, u_X5_addDigits_L6, if_pos (by decide)]
  rfl
theorem c_addDigits {n v r a : Nat} {c : cd_S} (hn : 100 ≤ n) (h162 : cI c 162 r = nI a) (ha : a ≤ 4) : f_X5_addDigits n c r (nI v) = some (0, cSI (cSL c 161 r a (cD5 v)) 162 r (nI (a + 1))) := by
  obtain ⟨j, hj⟩ : ∃ j, n = j + 4 := ⟨n - 4, by omega⟩
  have e := c_adLs (n := n) (v := v) (r := r) (j := j) (c := c)
  rw [← hj] at e
  unfold f_X5_addDigits f_X5_addStep
  rw [e, bs_some]
  dsimp only
  rw [h162, if_neg (show ¬ nI a < 0 from nI_nn (by omega)), if_neg (show ¬ (5 : Int32) ≤ nI a from fun z => absurd ((nI_leI (a := 5) (by decide) (by omega)).mp z) (by omega)), c_st161 (by omega), bs_some, cI_SL, h162, nI_1, bs_some, bs_some]
theorem m_pwL {n j v : Nat} {m : md_S} {x : Int64} {l3 p : Int32} (h0 : ¬ p ≤ 0) (hz : p ≠ 0) (hA : isA (dgc v p)) : f_X12_placeWith_L72 n (nI v) l3 (j + 1) m x p = f_X12_placeWith_L72 n (nI v) l3 j m (s37 x (dgc v p)) (p / 10) := by
  have nz : md_nz p = some 0 := if_neg hz
  have hd := m_digitOf (n := n) (s := m) hA
  unfold dgc at hd
  rw [u_X12_placeWith_L72, if_neg h0, nz, bs_some, hd, bs_some]
  rfl
theorem m_cp5L {n p cnt : Nat} {m : md_S} {l2 : Int32} (hp : p < 265) (hc : cnt ≤ 5) : ∀ (d j i : Nat) (s : md_S), i + d = cnt → d < j → md_fr [17] m s → (∀ y, y < 1325 → mL s 17 y = mL m 17 y) → (∀ y, y < i → mL s 17 (1325 + y) = mL m 17 (5 * p + y)) → ∃ s', f_X12_placeWith_L10 n (nI p) l2 (nI cnt) j s (nI i) = some (s', nI cnt) ∧ md_fr [17] m s' ∧ (∀ y, y < 1325 → mL s' 17 y = mL m 17 y) ∧ ∀ y, y < cnt → mL s' 17 (1325 + y) = mL m 17 (5 * p + y) := by
  intro d
  induction d with
  | zero =>
    intro j i s hi hj hf h1 h2
    obtain ⟨j, rfl⟩ : ∃ q, j = q + 1 := ⟨j - 1, by omega⟩
    obtain rfl : i = cnt := by omega
    exact ⟨s, by rw [u_X12_placeWith_L10, if_pos ((nI_leI (by omega) (by omega)).mpr (Nat.le_refl _))], hf, h1, h2⟩
  | succ d ih =>
    intro j i s hi hj hf h1 h2
    obtain ⟨j, rfl⟩ : ∃ q, j = q + 1 := ⟨j - 1, by omega⟩
    obtain ⟨s', g1, g2, g3, g4⟩ := ih j (i + 1) (mSL s 17 (1325 + i) (mL s 17 (5 * p + i))) (by omega) (by omega) (md_fr_SL hf (by simp) _ _) (fun y hy => by rw [mL_SLi (by omega)]; exact h1 y hy) (fun y hy => by
      by_cases q : y = i
      · rw [q, mL_SLe]; exact h1 _ (by omega)
      · rw [mL_SLi (by omega)]; exact h2 y (by omega))
    refine ⟨s', ?_, g2, g3, g4⟩
    rw [u_X12_placeWith_L10, if_neg (fun z => absurd ((nI_leI (by omega) (by omega)).mp z) (by omega)), show (5 : Int32) = nI 5 from rfl, nI_mul, nI_add, m_ld17 (by omega), bs_some, show (1325 : Int32) = nI 1325 from rfl, nI_add, m_st17 (by omega), bs_some, nI_1]
    exact g1
theorem m_pw {n p v cnt : Nat} {m : md_S} (hn : 100 ≤ n) (hv : v < 1000) (hp : p < 265) (h18 : mA m 18 p = nI cnt) (hc : cnt ≤ 4) : ∃ m', f_X12_placeWith n m (nI p) (nI v) = some (0, m') ∧ md_fr [17, 18, 19] m m' ∧ (∀ y, y < 1325 → mL m' 17 y = mL m 17 y) ∧ (∀ y, y < cnt → mL m' 17 (1325 + y) = mL m 17 (5 * p + y)) ∧ mL m' 17 (1325 + cnt) = mD5 v ∧ (∀ x, x ≠ 265 → mA m' 18 x = mA m 18 x ∧ mA m' 19 x = mA m 19 x) ∧ mA m' 18 265 = nI (cnt + 1) ∧ mA m' 19 265 = 0 := by
  obtain ⟨s, g1, g2, g3, g4⟩ := m_cp5L (n := n) (m := m) (l2 := nI v) hp (show cnt ≤ 5 by omega) cnt n 0 m (by omega) (by omega) (md_fr_refl _ _) (fun _ _ => rfl) (fun y hy => by omega)
  obtain ⟨-, -, a1, a2, a3⟩ := dg5 ⟨v, hv⟩
  obtain ⟨j, hj⟩ : ∃ j, n = j + 4 := ⟨n - 4, by omega⟩
  have fin : ∀ t0 : Int32, f_X12_placeWith_L72 n (nI v) (nI cnt) n s 0 t0 = some (s, mD5 v, 0) → f_X12_placeWith_J70 n s (nI v) (nI cnt) 0 t0 = some (0, mSA (mSA (mSL s 17 (1325 + cnt) (mD5 v)) 18 265 (nI (cnt + 1))) 19 265 0) := fun t0 h => by
    unfold f_X12_placeWith_J70
    rw [h, bs_some]
    dsimp only
    rw [show (1325 : Int32) = nI 1325 from rfl, nI_add, m_st17 (by omega), bs_some, show (265 : Int32) = nI 265 from rfl, nI_1, m_st18 (by omega), bs_some, m_st19 (by omega), bs_some]
  have l1 : ∀ (j : Nat) (x : Int64), f_X12_placeWith_L72 n (nI v) (nI cnt) (j + 2) s x 1 = some (s, s37 x (dgc v 1), 0) := fun j x => by
    rw [show j + 2 = j + 1 + 1 from rfl, m_pwL (by decide) (by decide) a3, show (1 : Int32) / 10 = 0 by decide, u_X12_placeWith_L72, if_pos (by decide)]
  have l2 : ∀ (j : Nat) (x : Int64), f_X12_placeWith_L72 n (nI v) (nI cnt) (j + 3) s x 10 = some (s, s37 (s37 x (dgc v 10)) (dgc v 1), 0) := fun j x => by
    rw [show j + 3 = j + 2 + 1 from rfl, m_pwL (by decide) (by decide) a2, show (10 : Int32) / 10 = 1 by decide, l1]
  have l3 : ∀ (j : Nat) (x : Int64), f_X12_placeWith_L72 n (nI v) (nI cnt) (j + 4) s x 100 = some (s, s37 (s37 (s37 x (dgc v 100)) (dgc v 10)) (dgc v 1), 0) := fun j x => by
    rw [show j + 4 = j + 3 + 1 from rfl, m_pwL (by decide) (by decide) a1, show (100 : Int32) / 10 = 10 by decide, l2]
  have e1 := l1 (j + 2) 0
  have e2 := l2 (j + 1) 0
  have e3 := l3 j 0
  rw [show j + 2 + 2 = j + 4 from rfl, ← hj] at e1
  rw [show j + 1 + 3 = j + 4 from rfl, ← hj] at e2
  rw [← hj] at e3
  refine ⟨mSA (mSA (mSL s 17 (1325 + cnt) (mD5 v)) 18 265 (nI (cnt + 1))) 19 265 0, ?_, ?_, fun y hy => ?_, fun y hy => ?_, ?_, fun x hx => ⟨?_, ?_⟩, ?_, ?_⟩
  · unfold f_X12_placeWith
    rw [m_ld18 (by omega), bs_some, h18, show f_X12_placeWith_L10 n (nI p) (nI v) (nI cnt) n m 0 = _ from g1, bs_some]
    dsimp only
    unfold mD5 at fin
    by_cases q : nI v ≤ (99 : Int32)
    · rw [if_pos q]
      by_cases q9 : nI v ≤ (9 : Int32)
      · rw [if_pos q9]
        unfold mD5
        rw [if_pos q, if_pos q9] at fin ⊢
        exact fin 1 e1
      · rw [if_neg q9]
        unfold mD5
        rw [if_pos q, if_neg q9] at fin ⊢
        exact fin 10 e2
    · rw [if_neg q]
      unfold mD5
      rw [if_neg q] at fin ⊢
      exact fin 100 e3
  · exact md_fr_SA (md_fr_SA (md_fr_SL (md_fr_mono g2 (by decide)) (by decide) _ _) (by decide) _ _) (by decide) _ _
  · rw [mL_SA, mL_SA, mL_SLi (by omega)]; exact g3 y hy
  · rw [mL_SA, mL_SA, mL_SLi (by omega)]; exact g4 y hy
  · rw [mL_SA, mL_SA, mL_SLe]
  · rw [mA_SAo (by decide), mA_SAi hx, mA_SL, md_frA g2 (by decide)]
  · rw [mA_SAi hx, mA_SAo (by decide), mA_SL, md_frA g2 (by decide)]
  · rw [mA_SAo (by decide), mA_SAe]
  · rw [mA_SAe]
theorem aim_ok {n a v N : Nat} {c : cd_S} {m : md_S} (hn : 100 ≤ n) (hv : v < 1000) (ha : a < N) (hN : N ≤ 24) (h109 : cI c 109 0 = nI N) (hrp : RP c m (168 + a) (240 + a)) (h4 : ∃ k, k ≤ 4 ∧ cI c 162 (168 + a) = nI k) (h163 : cI c 163 (168 + a) = 0) :
    ∃ c' m', f_X3_aim n c (nI a) (nI v) = some (0, c') ∧ f_X12_placeWith n m (nI (240 + a)) (nI v) = some (0, m') ∧ RP c' m' 192 265 ∧ cJ c' 160 192 = cJ c 160 (168 + a) ∧ Rfr c c' 192 ∧ md_fr [17, 18, 19] m m' ∧ (∀ x, x ≠ 265 → mA m' 18 x = mA m 18 x ∧ mA m' 19 x = mA m 19 x) ∧ ∀ y, y < 1325 → mL m' 17 y = mL m 17 y := by
  obtain ⟨k, k4, hk⟩ := h4
  obtain ⟨k', tl, r1, r2, r3, r4, r5, r6, r7⟩ := hrp
  obtain rfl : k' = k := (nI_eq (by omega) (by omega)).mp (r3.symm.trans hk)
  obtain ⟨d0, t1, t2, t3, t4, t5, t6⟩ := c_take (n := n) (c := c) (r := 192) (r2 := 168 + a) hn (by omega)
  have hd := c_addDigits (n := n) (v := v) (r := 192) (a := k') (c := d0) hn (t3.trans hk) k4
  obtain ⟨m', p1, p2, p3, p4, p5, p6, p7, p8⟩ := m_pw (n := n) (p := 240 + a) (m := m) hn hv (by omega) r5 k4
  refine ⟨cSI (cSL d0 161 192 k' (cD5 v)) 162 192 (nI (k' + 1)), m', ?_, p1, ⟨k' + 1, 0, by omega, by omega, cI_SIe, ?_, p7, p8, fun i hi => ?_⟩, ?_, ⟨fun x hx => ⟨?_, ?_, ?_, fun i => ?_⟩, ?_⟩, p2, p6, p3⟩
  · unfold f_X3_aim
    rw [if_neg (show ¬ nI a < 0 from nI_nn (by omega)), h109, if_neg (show ¬ nI N ≤ nI a from fun z => absurd ((nI_leI (by omega) (by omega)).mp z) (by omega)), c_ld102 (by omega), bs_some, t1, bs_some]
    dsimp only
    rw [hd, bs_some]
  · rw [cI_SIo (by decide), cI_SL, t4, h163]; rfl
  · rw [cL_SI]
    by_cases q : i = k'
    · rw [q, cL_SLe, show 5 * 265 + k' = 1325 + k' from rfl, p5]; exact NR5 hv
    · rw [cL_SLi q, t6 i (by omega), show 5 * 265 + i = 1325 + i from rfl, p4 i (by omega)]
      exact r7 i (by omega)
  · rw [cJ_SI, cJ_SL, t5]
  · rw [cI_SIi hx, cI_SL]; exact (t2.1 x hx).1
  · rw [cI_SIo (by decide), cI_SL]; exact (t2.1 x hx).2.1
  · rw [cJ_SI, cJ_SL]; exact (t2.1 x hx).2.2.1
  · rw [cL_SI, cL_SL, if_neg (fun z => hx z.2)]; exact (t2.1 x hx).2.2.2 i
  · exact cd_fr_SI (cd_fr_SL t2.2 (by decide) _ _ _) (by decide) (by decide) _ _
