/-! where it begins -/
theorem RLW.start {n : Nat} {C : Nat × Nat} {c : cd_S} {m : md_S} {b : cd_B} (h353 : cI c 353 0 = 0) (h2 : mI m 2 = 0) (hK : KWs c) (hB : Bd C c b) (hN : ∀ l, l < 400 → cAr c 79 0 l = 0) (h363 : cI c 363 0 = 0) (h81 : mI m 81 = 0) (h139 : cI c 139 0 = mI m 6) (h140 : cI c 140 0 = mI m 7) (h362 : cI c 362 0 = 0) (h5 : mI m 5 = 0) (h51 : cI c 51 0 = 0) (h86 : mI m 86 = 0) (h260 : cI c 260 0 = 0) : RLW n C c m b 0 :=
  ⟨⟨⟨by omega, h353, h2, fun i hi => by omega⟩, by omega, hK, hB, fun l hl => ⟨0, by decide, hN l hl⟩, Or.inl ⟨h363, h81⟩, ⟨h139, h140⟩, Or.inl ⟨h362, h5⟩⟩, Or.inl ⟨h51, h86⟩, Or.inl h260⟩
theorem RLW.mono {n t : Nat} {C C' : Nat × Nat} {c : cd_S} {m : md_S} {b : cd_B} (h : RLW n C c m b t) (h1 : C'.1 ≤ C.1) (h2 : C'.2 ≤ C.2) : RLW n C' c m b t := by
  have hB := h.1.2.2.2.1
  exact ⟨h.1.bd ⟨hB.1, Nat.le_trans h1 hB.2.1, Nat.le_trans h2 hB.2.2⟩, h.2⟩
/-- the law behind k calls: room for those that come, text no longer than what was fed -/
def LAWS (n : Nat) (C : Nat × Nat) (k : Nat) (c : cd_S) (m : md_S) (b : cd_B) : Prop := ∃ t, t ≤ 20 * k ∧ RLW n (C.1 - k, C.2 - 6 * k) c m b t
def LC (C : Nat × Nat) : Prop := 10100 ≤ C.1 ∧ CC + 1400 ≤ C.2
theorem lc_sub (z x k : Nat) (h : z + 1400 ≤ x) (hk : k ≤ 64) : z + 1000 ≤ x - 6 * k := by omega
theorem LC.bc {C : Nat × Nat} (h : LC C) {k : Nat} (hk : k ≤ 64) : BC (C.1 - k, C.2 - 6 * k) := by
  obtain ⟨h1, h2⟩ := h
  refine ⟨?_, ?_⟩
  · show 10000 ≤ C.1 - k
    omega
  · show CC + 1000 ≤ C.2 - 6 * k
    exact lc_sub CC C.2 k h2 hk
theorem LAWS.nx {n k t : Nat} {C : Nat × Nat} {c : cd_S} {m : md_S} {b : cd_B} (h : RLW n (C.1 - k, C.2 - 6 * k) c m b t) (ht : t ≤ 20 * k + 20) : LAWS n C (k + 1) c m b :=
  ⟨t, by omega, h.mono (show C.1 - (k + 1) ≤ C.1 - k by omega) (show C.2 - 6 * (k + 1) ≤ C.2 - 6 * k by omega)⟩
/-- one more call of each method: the answers are the same, and all is in order behind it -/
theorem law_feed {n k : Nat} {C : Nat × Nat} {c : cd_S} {m : md_S} {b : cd_B} (hn : 100 ≤ n) (hk : k < 64) (h : LAWS n C k c m b) (x1 x2 x3 x4 x5 : Int32) : ∃ r c' m', f_X11_feed n c x1 x2 x3 x4 x5 = some (r, c') ∧ f_X12_feed n m x1 x2 x3 x4 x5 = some (r, m') ∧ LAWS n C (k + 1) c' m' b := by
  obtain ⟨t, ht, h⟩ := h
  obtain ⟨r, c', m', t', e1, e2, -, e4, e5⟩ := feed_all hn h (by omega) x1 x2 x3 x4 x5
  exact ⟨r, c', m', e1, e2, LAWS.nx e5 (by omega)⟩
theorem law_end {n k : Nat} {C : Nat × Nat} {c : cd_S} {m : md_S} {b : cd_B} (hn : 100 ≤ n) (h : LAWS n C k c m b) (a : Int32) : ∃ r c' m', f_X11_end n c a = some (r, c') ∧ f_X12_end n m a = some (r, m') ∧ LAWS n C (k + 1) c' m' b := by
  obtain ⟨t, ht, h⟩ := h
  obtain ⟨r, c', m', t', e1, e2, -, e4, e5⟩ := end_all hn h a
  exact ⟨r, c', m', e1, e2, LAWS.nx e5 (by omega)⟩
theorem law_asks {n k : Nat} {C : Nat × Nat} {c : cd_S} {m : md_S} {b : cd_B} (hC : LC C) (hn : 5000 ≤ n) (hk : k < 64) (h : LAWS n C k c m b) : ∃ r c' b' m', f_X11_asks n c b = some (r, c', b') ∧ f_X12_asks n m = some (r, m') ∧ ble b' b ∧ LAWS n C (k + 1) c' m' b' := by
  obtain ⟨t, ht, h⟩ := h
  obtain ⟨r, c', b', m', e1, e2, -, e4, e5⟩ := askw_all (hC.bc (by omega)) hn h
  exact ⟨r, c', b', m', e1, e2, e4, LAWS.nx e5 (by omega)⟩
theorem law_may {n k : Nat} {C : Nat × Nat} {c : cd_S} {m : md_S} {b : cd_B} (hn : 1000000 ≤ n) (h : LAWS n C k c m b) (a : Int32) : ∃ v c' m', f_X11_may n c a = some (v, c') ∧ f_X12_may n m a = some (v, m') ∧ LAWS n C (k + 1) c' m' b := by
  obtain ⟨t, ht, h⟩ := h
  obtain ⟨v, c', m', e1, e2, -, e4⟩ := may_all hn h a
  exact ⟨v, c', m', e1, e2, LAWS.nx e4 (by omega)⟩
theorem law_tell {n k : Nat} {C : Nat × Nat} {c : cd_S} {m : md_S} {b : cd_B} (hn : 100 ≤ n) (h : LAWS n C k c m b) (a a2 a3 : Int32) :
    LAWS n C (k + 1) c (mSI m 0 0) b ∧
    (∃ v, f_X11_fault n c a = some (v, c) ∧ f_X12_fault n m a = some (v, mSI m 0 0)) ∧ (∃ v, f_X11_number n c a = some (v, c) ∧ f_X12_number n m a = some (v, mSI m 0 0)) ∧ (∃ v, f_X11_domain n c a = some (v, c) ∧ f_X12_domain n m a = some (v, mSI m 0 0)) ∧
    (∃ v, f_X11_unit n c a a2 = some (v, c) ∧ f_X12_unit n m a a2 = some (v, mSI m 0 0)) ∧ (∃ v, f_X11_code n c a a2 a3 = some (v, c) ∧ f_X12_code n m a a2 a3 = some (v, mSI m 0 0)) ∧ (∃ v, f_X11_has n c a a2 = some (v, c) ∧ f_X12_has n m a a2 = some (v, mSI m 0 0)) ∧
    (∃ v, f_X11_result n c a = some (v, c) ∧ f_X12_result n m a = some (v, mSI m 0 0)) ∧ (∃ v, f_X11_event n c a a2 = some (v, c) ∧ f_X12_event n m a a2 = some (v, mSI m 0 0)) ∧ (∃ v, f_X11_context n c a a2 = some (v, c) ∧ f_X12_context n m a a2 = some (v, mSI m 0 0)) ∧
    (∃ v, f_X11_thread n c a a2 = some (v, c) ∧ f_X12_thread n m a a2 = some (v, mSI m 0 0)) ∧ ∃ v m', f_X11_count n c a = some (v, c) ∧ f_X12_count n m a = some (v, m') ∧ LAWS n C (k + 1) c m' b := by
  obtain ⟨t, ht, h⟩ := h
  obtain ⟨e1, -, e2, e3, e4, e5, e6, e7, e8, e9, e10, e11, v, m', g1, g2, g3, -⟩ := tell_all hn h a a2 a3
  exact ⟨LAWS.nx e1 (by omega), e2, e3, e4, e5, e6, e7, e8, e9, e10, e11, v, m', g1, g2, LAWS.nx g3 (by omega)⟩
theorem law_program {n k : Nat} {C : Nat × Nat} {c : cd_S} {m : md_S} {b : cd_B} (hC : LC C) (hn : 1000000 ≤ n) (hk : k < 64) (h : LAWS n C k c m b) :
    (∃ c' b' m', f_X11_program n c b = some (Sum.inr (c', b')) ∧ f_X12_program n m = some (0, m') ∧ mI m' 0 = 1 ∧ LAWS n C (k + 1) c' m' b' ∧ ble b' b) ∨
    (∃ v c' b' m', f_X11_program n c b = some (Sum.inl (v, c', b')) ∧ f_X12_program n m = some (v, m') ∧ mI m' 0 = 0 ∧ LAWS n C (k + 1) c' m' b' ∧ ble b' b) := by
  obtain ⟨t, ht, h⟩ := h
  rcases program_all (hC.bc (by omega)) hn h with ⟨c', b', m', e1, e2, e3, e4, e5⟩ | ⟨v, c', b', m', e1, e2, e3, e4, e5⟩
  · exact Or.inl ⟨c', b', m', e1, e2, e3, ⟨0, by omega, e4.mono (show C.1 - (k + 1) ≤ C.1 - k - 1 by omega) (show C.2 - 6 * (k + 1) ≤ C.2 - 6 * k - 6 by omega)⟩, e5⟩
  · exact Or.inr ⟨v, c', b', m', e1, e2, e3, LAWS.nx e4 (by omega), e5⟩
theorem law_run {n k : Nat} {C : Nat × Nat} {c : cd_S} {m : md_S} {b : cd_B} {a1 a2 a3 : Int32} {rw : Bool} (hC : LC C) (hn : 60000000 ≤ n) (hk : k < 64) (h : LAWS n C k c m b) :
    (∃ e b', (e = 1 ∨ e = 2) ∧ f_X11_run n c b a1 a2 a3 (rI rw) = some (Sum.inr (e, c, b')) ∧ f_X12_run n m a1 a2 a3 (rI rw) = some (0, mSI m 0 (nI e)) ∧ LAWS n C (k + 1) c (mSI m 0 (nI e)) b' ∧ ble b' b) ∨
    (∃ v c' b' m', f_X11_run n c b a1 a2 a3 (rI rw) = some (Sum.inl (v, c', b')) ∧ f_X12_run n m a1 a2 a3 (rI rw) = some (v, m') ∧ mI m' 0 = 0 ∧ LAWS n C (k + 1) c' m' b' ∧ ble b' b) := by
  obtain ⟨t, ht, h⟩ := h
  rcases run_all (a1 := a1) (a2 := a2) (a3 := a3) (rw := rw) (hC.bc (by omega)) hn h.1 h.2.1 h.2.2 with ⟨e, b', e1, e2, e3, e4, e5, e6, e7⟩ | ⟨v, c', b', m', e1, e2, e3, e4, e5, e6, e7⟩
  · refine Or.inl ⟨e, b', e1, e2, e3, ⟨t, by omega, ?_⟩, e7⟩
    have hR : RLW n (C.1 - k - 1, C.2 - 6 * k - 6) c (mSI m 0 (nI e)) b' t := ⟨e4, e5, e6⟩
    exact hR.mono (show C.1 - (k + 1) ≤ C.1 - k - 1 by omega) (show C.2 - 6 * (k + 1) ≤ C.2 - 6 * k - 6 by omega)
  · have hR : RLW n (C.1 - k, C.2 - 6 * k) c' m' b' t := ⟨e4, e5, e6⟩
    exact Or.inr ⟨v, c', b', m', e1, e2, e3, LAWS.nx hR (by omega), e7⟩
/-- what the model says it threw -/
theorem m_thrown {n : Nat} {m : md_S} : f_X12_thrown n m = some (mI m 0, m) := by
  unfold f_X12_thrown
  rfl
