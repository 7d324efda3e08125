/-! what a thread of the model does with its frames -/
theorem TMx.fa {n t : Nat} {m : md_S} {rw : Bool} {cb : Nat → Nat} {f : FR} {r : List FR} (hme : mI m 127 = nI t) (ht : t < 8) (h : TMx m t rw cb (f :: r)) : f_X12_frameAt n m = some (nI (60 * t + r.length), m) := by
  unfold f_X12_frameAt
  rw [hme, m_ld111 ht, bs_some, h.1, List.length_cons, show (60 : Int32) = nI 60 from rfl, nI_mul, nI_add, show (1 : Int32) = nI 1 from rfl, nI_sub (by omega), show 60 * t + (r.length + 1) - 1 = 60 * t + r.length by omega]
theorem TMx.k {t : Nat} {m : md_S} {rw : Bool} {cb : Nat → Nat} {f : FR} {r : List FR} (h : TMx m t rw cb (f :: r)) : r.length < 60 := by
  have := h.2.1
  rw [List.length_cons] at this
  omega
theorem TM.push {n t : Nat} {m : md_S} {rw : Bool} {cb : Nat → Nat} {f : FR} {r : List FR} {x : Int64} {s v : Int32} (hme : mI m 127 = nI t) (ht : t < 8) (h : TM m t rw cb (f :: r)) (hs : s = vS x) (h5 : s ≠ 5) (hv : v = mv rw x) (hb : vsz (f :: r) < 9000) : ∃ m', f_X12_push n m s v = some (0, m') ∧ TM m' t rw cb (f.sW (x :: f.W) :: r) ∧ OPM [120, 121, 122] t m m' := by
  obtain ⟨⟨h1, h2, h3, h4, h5', ⟨a1, a2, a3, a4, a5⟩, l1, w1, g1⟩, h7⟩ := h
  have hl : lsz (f :: r) = lsz r + f.L.length := rfl
  have hvz : vsz (f :: r) = vsz r + vln f.W := rfl
  have hts : tsz (f :: r) = tsz r + mln f.W := rfl
  have h5x : ¬ vS x = 5 := by rw [← hs]; exact h5
  have hvx : vln (x :: f.W) = 1 + vln f.W := by show (if vS x = 5 then 0 else 1) + vln f.W = _; rw [if_neg h5x]
  have hmx : mln (x :: f.W) = mln f.W := by show (if vS x = 5 then 1 else 0) + mln f.W = _; rw [if_neg h5x]; omega
  have hz2 : vsz (f.sW (x :: f.W) :: r) = vsz (f :: r) + 1 := by show vsz r + vln (x :: f.W) = _; omega
  have hs2 : tsz (f.sW (x :: f.W) :: r) = tsz (f :: r) := by show tsz r + mln (x :: f.W) = _; omega
  obtain ⟨m', em⟩ : ∃ m', m' = mSA (mSA (mSA m 121 (9000 * t + vsz (f :: r)) s) 122 (9000 * t + vsz (f :: r)) v) 120 t (nI (vsz (f :: r) + 1)) := ⟨_, rfl⟩
  have o1 : OPM [120, 121, 122] t m m' := by
    rw [em]
    exact (((opm_s (m := m) (v := s) (Or.inl rfl) hb).mo (by simp)).tr ((opm_s (v := v) (Or.inr rfl) hb).mo (by simp))).tr ((opm_1 (g := 120) (by decide)).mo (by simp))
  have o : ∀ g, g ≠ 120 → g ≠ 121 → g ≠ 122 → ∀ i, mA m' g i = mA m g i := fun g q1 q2 q3 i => md_frA o1.1 (by simp; omega) i
  have e121 : ∀ i, mA m' 121 i = if i = 9000 * t + vsz (f :: r) then s else mA m 121 i := fun i => by
    rw [em, mA_SAo (by decide), mA_SAo (by decide), mA_SA, if_pos rfl]
  have e122 : ∀ i, mA m' 122 i = if i = 9000 * t + vsz (f :: r) then v else mA m 122 i := fun i => by
    rw [em, mA_SAo (by decide), mA_SA, if_pos rfl, mA_SAo (by decide)]
  have es : ∀ g j, g = 121 ∨ g = 122 → j < vsz (f :: r) → mA m' g (9000 * t + j) = mA m g (9000 * t + j) := fun g j q hj => by
    rcases q with q | q
    · rw [q, e121, if_neg (by omega)]
    · rw [q, e122, if_neg (by omega)]
  refine ⟨m', ?_, ⟨⟨?_, h2, ?_, ?_, ⟨by rw [hl] at h5'; exact h5'.1, by omega, by omega⟩, ⟨?_, ?_, ?_, ?_, ?_⟩, fun i hi => ?_, ⟨?_, ?_⟩, ?_⟩, ?_⟩, o1⟩
  · unfold f_X12_push
    rw [hme, m_ld120 ht, bs_some, h7, show (9000 : Int32) = nI 9000 from rfl, nI_mul, nI_add, m_st121 (by omega), bs_some, m_st122 (by omega), bs_some, mI_SA, mI_SA, hme, m_ld120 ht, bs_some, mA_SAo (by decide), mA_SAo (by decide), h7, nI_1, m_st120 ht, bs_some, em]
  · rw [o 111 (by decide) (by decide) (by decide)]; exact h1
  · rw [o 117 (by decide) (by decide) (by decide)]; exact h3
  · rw [o 123 (by decide) (by decide) (by decide), hs2]; exact h4
  · rw [o 112 (by decide) (by decide) (by decide)]; exact a1
  · rw [o 113 (by decide) (by decide) (by decide)]; exact a2
  · rw [o 114 (by decide) (by decide) (by decide)]; exact a3
  · rw [o 115 (by decide) (by decide) (by decide)]; exact a4
  · rw [o 116 (by decide) (by decide) (by decide)]; exact a5
  · rw [o 118 (by decide) (by decide) (by decide), o 119 (by decide) (by decide) (by decide)]; exact l1 i hi
  · rw [if_neg h5x, show vsz r + vln f.W = vsz (f :: r) from rfl, e121, if_pos rfl, e122, if_pos rfl]
    exact ⟨hs, hv⟩
  · exact w1.of (fun g j q _ hj => es g j q (by omega)) (fun g j q1 q2 _ _ => o g (by omega) (by omega) (by omega) _)
  · exact g1.of (fun g k q1 q2 _ => o g (by omega) (by omega) (by omega) _) (fun g j q _ => o g (by omega) (by omega) (by omega) _) (fun g j q hj => es g j q (by omega)) (fun g j q1 q2 _ => o g (by omega) (by omega) (by omega) _)
  · rw [hz2, em, mA_SAe]
theorem TM.pop {n t : Nat} {m : md_S} {rw : Bool} {cb : Nat → Nat} {f : FR} {r : List FR} {x : Int64} {V : List Int64} (hme : mI m 127 = nI t) (ht : t < 8) (h : TM m t rw cb (f :: r)) (hW : f.W = x :: V) (h5 : vS x ≠ 5) : ∃ m', f_X12_pop n m = some (vS x, m') ∧ mI m' 135 = mv rw x ∧ TM m' t rw cb (f.sW V :: r) ∧ OPM [120, 135] t m m' := by
  obtain ⟨⟨h1, h2, h3, h4, h5', ⟨a1, a2, a3, a4, a5⟩, l1, w1, g1⟩, h7⟩ := h
  rw [hW] at w1
  obtain ⟨w2, w3⟩ := w1
  rw [if_neg h5] at w2
  have hl : lsz (f :: r) = lsz r + f.L.length := rfl
  have hvz : vsz (f :: r) = vsz r + vln f.W := rfl
  have hts : tsz (f :: r) = tsz r + mln f.W := rfl
  have hvx : vln f.W = 1 + vln V := by rw [hW]; show (if vS x = 5 then 0 else 1) + vln V = _; rw [if_neg h5]
  have hmx : mln f.W = mln V := by rw [hW]; show (if vS x = 5 then 1 else 0) + mln V = _; rw [if_neg h5]; omega
  have hz2 : vsz (f.sW V :: r) = vsz r + vln V := rfl
  have hs2 : tsz (f.sW V :: r) = tsz (f :: r) := by show tsz r + mln V = _; omega
  obtain ⟨m', em⟩ : ∃ m', m' = mSI (mSA m 120 t (nI (vsz r + vln V))) 135 (mv rw x) := ⟨_, rfl⟩
  have o1 : OPM [120, 135] t m m' := by
    rw [em]
    exact ((opm_1 (g := 120) (by decide)).mo (by simp)).tr (opm_i.mo (by simp))
  have o : ∀ g, g ≠ 120 → g ≠ 135 → ∀ i, mA m' g i = mA m g i := fun g q1 q2 i => md_frA o1.1 (by simp; omega) i
  refine ⟨m', ?_, by rw [em, mI_SIe], ⟨⟨?_, h2, ?_, ?_, ⟨by rw [hl] at h5'; exact h5'.1, by omega, by omega⟩, ⟨?_, ?_, ?_, ?_, ?_⟩, fun i hi => ?_, ?_, ?_⟩, ?_⟩, o1⟩
  · unfold f_X12_pop
    rw [hme, m_ld120 ht, bs_some, h7, show (1 : Int32) = nI 1 from rfl, nI_sub (by omega), m_st120 ht, bs_some, mI_SA, hme, m_ld120 ht, bs_some, mA_SAe, show vsz (f :: r) - 1 = vsz r + vln V by omega, show (9000 : Int32) = nI 9000 from rfl, nI_mul, nI_add, m_ld122 (by omega), bs_some, mA_SAo (by decide), w2.2, bs_some, mI_SIo (by decide), mI_SA, hme, m_ld120 ht, bs_some, mA_SI, mA_SAe, nI_mul, nI_add, m_ld121 (by omega), bs_some, mA_SI, mA_SAo (by decide), w2.1, em]
  · rw [o 111 (by decide) (by decide)]; exact h1
  · rw [o 117 (by decide) (by decide)]; exact h3
  · rw [o 123 (by decide) (by decide), hs2]; exact h4
  · rw [o 112 (by decide) (by decide)]; exact a1
  · rw [o 113 (by decide) (by decide)]; exact a2
  · rw [o 114 (by decide) (by decide)]; exact a3
  · rw [o 115 (by decide) (by decide)]; exact a4
  · rw [o 116 (by decide) (by decide)]; exact a5
  · rw [o 118 (by decide) (by decide), o 119 (by decide) (by decide)]; exact l1 i hi
  · exact w3.of (fun g j q _ hj => o g (by omega) (by omega) _) (fun g j q1 q2 _ _ => o g (by omega) (by omega) _)
  · exact g1.of (fun g k q1 q2 _ => o g (by omega) (by omega) _) (fun g j q _ => o g (by omega) (by omega) _) (fun g j q hj => o g (by omega) (by omega) _) (fun g j q1 q2 _ => o g (by omega) (by omega) _)
  · rw [hz2, em, mA_SI, mA_SAe]
theorem TM.go {t p : Nat} {m : md_S} {rw : Bool} {cb : Nat → Nat} {f : FR} {r : List FR} (h : TM m t rw cb (f :: r)) : TM (mSA m 113 (60 * t + r.length) (nI (cb f.u + p))) t rw cb (f.sp p :: r) ∧ OPM [113] t m (mSA m 113 (60 * t + r.length) (nI (cb f.u + p))) := by
  have hk := h.1.k
  obtain ⟨⟨h1, h2, h3, h4, h5', ⟨a1, a2, a3, a4, a5⟩, l1, w1, g1⟩, h7⟩ := h
  have o : ∀ g, g ≠ 113 → ∀ i, mA (mSA m 113 (60 * t + r.length) (nI (cb f.u + p))) g i = mA m g i := fun g q i => mA_SAo q
  refine ⟨⟨⟨?_, h2, ?_, ?_, h5', ⟨?_, mA_SAe, ?_, ?_, ?_⟩, fun i hi => ?_, ?_, ?_⟩, ?_⟩, opm_f (by decide) (by decide) hk⟩
  · rw [o 111 (by decide)]; exact h1
  · rw [o 117 (by decide)]; exact h3
  · rw [o 123 (by decide)]; exact h4
  · rw [o 112 (by decide)]; exact a1
  · rw [o 114 (by decide)]; exact a3
  · rw [o 115 (by decide)]; exact a4
  · rw [o 116 (by decide)]; exact a5
  · rw [o 118 (by decide), o 119 (by decide)]; exact l1 i hi
  · exact w1.of (fun g j q _ hj => o g (by omega) _) (fun g j q1 q2 _ _ => o g (by omega) _)
  · refine g1.of (fun g k q1 q2 q3 => ?_) (fun g j q _ => o g (by omega) _) (fun g j q hj => o g (by omega) _) (fun g j q1 q2 _ => o g (by omega) _)
    rw [mA_SA]
    split
    · rw [if_neg (by omega)]
    · rfl
  · rw [o 120 (by decide)]; exact h7
theorem TM.pl {t : Nat} {m : md_S} {rw : Bool} {cb : Nat → Nat} {f : FR} {r : List FR} (ht : t < 8) (h : TM m t rw cb (f :: r)) : mldA m 113 (nI (60 * t + r.length)) = some (nI (cb f.u + f.p)) ∧ mldA m 112 (nI (60 * t + r.length)) = some (nI f.u) ∧ (∀ v, mstA m 113 (nI (60 * t + r.length)) v = some (mSA m 113 (60 * t + r.length) v)) ∧ mldA m 114 (nI (60 * t + r.length)) = some (nI (lsz r)) ∧ mldA m 116 (nI (60 * t + r.length)) = some (f.cx + 1) ∧ mldA m 115 (nI (60 * t + r.length)) = some (mA m 115 (60 * t + r.length)) := by
  have hk := h.1.k
  obtain ⟨⟨h1, h2, h3, h4, h5', ⟨a1, a2, a3, a4, a5⟩, -⟩, h7⟩ := h
  exact ⟨by rw [m_ld113 (by omega), a2], by rw [m_ld112 (by omega), a1], fun v => m_st113 (by omega), by rw [m_ld114 (by omega), a3], by rw [m_ld116 (by omega), a5], by rw [m_ld115 (by omega)]⟩
theorem TM.getl {t i : Nat} {m : md_S} {rw : Bool} {cb : Nat → Nat} {f : FR} {r : List FR} (ht : t < 8) (h : TM m t rw cb (f :: r)) (hi : i < f.L.length) : mldA m 118 (nI (12600 * t + lsz r + i)) = some (vS f.L[i]) ∧ mldA m 119 (nI (12600 * t + lsz r + i)) = some (mv rw f.L[i]) := by
  obtain ⟨⟨h1, h2, h3, h4, h5', -, l1, -⟩, h7⟩ := h
  have hl : lsz (f :: r) = lsz r + f.L.length := rfl
  obtain ⟨e1, e2⟩ := l1 i hi
  rw [← Nat.add_assoc] at e1 e2
  exact ⟨by rw [m_ld118 (by omega), e1], by rw [m_ld119 (by omega), e2]⟩
theorem TM.setl {n t i : Nat} {m : md_S} {rw : Bool} {cb : Nat → Nat} {f : FR} {r : List FR} {x : Int64} {s v : Int32} (ht : t < 8) (h : TM m t rw cb (f :: r)) (hi : i < f.L.length) (hs : s = vS x) (hv : v = mv rw x) : ∃ m', f_X12_setLocal n m (nI t) (nI (60 * t + r.length)) (nI i) s v = some (0, m') ∧ TM m' t rw cb (f.sL (f.L.set i x) :: r) ∧ OPM [118, 119] t m m' := by
  have hk := h.1.k
  have hp := (h.pl ht).2.2.2.1
  obtain ⟨⟨h1, h2, h3, h4, h5', ⟨a1, a2, a3, a4, a5⟩, l1, w1, g1⟩, h7⟩ := h
  have hl : lsz (f :: r) = lsz r + f.L.length := rfl
  have hl2 : lsz (f.sL (f.L.set i x) :: r) = lsz (f :: r) := by show lsz r + (f.L.set i x).length = _; rw [List.length_set]; rfl
  obtain ⟨m', em⟩ : ∃ m', m' = mSA (mSA m 118 (12600 * t + (lsz r + i)) s) 119 (12600 * t + (lsz r + i)) v := ⟨_, rfl⟩
  have o1 : OPM [118, 119] t m m' := by
    rw [em]
    exact ((opm_l (m := m) (v := s) (Or.inl rfl) (by omega)).mo (by simp)).tr ((opm_l (v := v) (Or.inr rfl) (by omega)).mo (by simp))
  have o : ∀ g, g ≠ 118 → g ≠ 119 → ∀ i, mA m' g i = mA m g i := fun g q1 q2 i => md_frA o1.1 (by simp; omega) i
  have e118 : ∀ j, mA m' 118 j = if j = 12600 * t + (lsz r + i) then s else mA m 118 j := fun j => by
    rw [em, mA_SAo (by decide), mA_SA, if_pos rfl]
  have e119 : ∀ j, mA m' 119 j = if j = 12600 * t + (lsz r + i) then v else mA m 119 j := fun j => by
    rw [em, mA_SA, if_pos rfl, mA_SAo (by decide)]
  have es : ∀ g j, g = 118 ∨ g = 119 → j ≠ lsz r + i → mA m' g (12600 * t + j) = mA m g (12600 * t + j) := fun g j q hj => by
    rcases q with q | q
    · rw [q, e118, if_neg (by omega)]
    · rw [q, e119, if_neg (by omega)]
  refine ⟨m', ?_, ⟨⟨?_, h2, ?_, ?_, ⟨by omega, h5'.2.1, h5'.2.2⟩, ⟨?_, ?_, ?_, ?_, ?_⟩, fun j hj => ?_, ?_, ?_⟩, ?_⟩, o1⟩
  · unfold f_X12_setLocal
    rw [hp, bs_some, show (12600 : Int32) = nI 12600 from rfl, nI_mul, nI_add, nI_add, m_st118 (by omega), bs_some, m_ld114 (by omega), bs_some, mA_SAo (by decide), a3, nI_add, nI_add, m_st119 (by omega), bs_some, em, Nat.add_assoc]
  · rw [o 111 (by decide) (by decide)]; exact h1
  · rw [o 117 (by decide) (by decide), hl2]; exact h3
  · rw [o 123 (by decide) (by decide)]; exact h4
  · rw [o 112 (by decide) (by decide)]; exact a1
  · rw [o 113 (by decide) (by decide)]; exact a2
  · rw [o 114 (by decide) (by decide)]; exact a3
  · rw [o 115 (by decide) (by decide)]; exact a4
  · rw [o 116 (by decide) (by decide)]; exact a5
  · have hj' : j < (f.L.set i x).length := hj
    show mA m' 118 (12600 * t + (lsz r + j)) = vS (f.L.set i x)[j] ∧ mA m' 119 (12600 * t + (lsz r + j)) = mv rw (f.L.set i x)[j]
    rw [List.getElem_set]
    rw [List.length_set] at hj'
    by_cases q : i = j
    · rw [if_pos q, e118, if_pos (by omega), e119, if_pos (by omega)]; exact ⟨hs, hv⟩
    · rw [if_neg q, es 118 _ (Or.inl rfl) (by omega), es 119 _ (Or.inr rfl) (by omega)]; exact l1 j hj'
  · exact w1.of (fun g j q _ hj => o g (by omega) (by omega) _) (fun g j q1 q2 _ _ => o g (by omega) (by omega) _)
  · exact g1.of (fun g k q1 q2 _ => o g (by omega) (by omega) _) (fun g j q hj => es g j q (by omega)) (fun g j q hj => o g (by omega) (by omega) _) (fun g j q1 q2 _ => o g (by omega) (by omega) _)
  · rw [o 120 (by decide) (by decide)]; exact h7
