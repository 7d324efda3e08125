/-! the model's patterns and signs -/
theorem m_stepL {n : Nat} {B : Nat → Int32} {N st : Nat} (hT : TB B N) (l1 l4 : Int32) : ∀ (k j p : Nat) (s : md_S) (a : Int64), p + k = N → k < j → st ≤ p → MT s B N → mI s 10 = nI p → ∃ v, f_X12_nextPattern_L74 n l1 l4 (nI st) j s a = some (mSI s 10 (nI (alE B k p)), v) ∧ (alE B k p - st ≤ 6 → v = c37 B (alE B k p - p) p a) := by
  have hN := hT.1
  intro k
  have hstop : ∀ (j p : Nat) (s : md_S) (a : Int64), p < 2 ^ 31 → MT s B N → mI s 10 = nI p → ¬ isA (B p) → f_X12_nextPattern_L74 n l1 l4 (nI st) (j + 1) s a = some (s, a) := by
    intro j p s a hp h hto q
    rw [u_X12_nextPattern_L74, hto, m_at hT h hp, bs_some]
    dsimp only
    rw [m_isLetter, bs_some]
    dsimp only
    rw [if_pos (b10.mpr (fun z => q (Or.inl z))), hto, m_at hT h hp, bs_some]
    dsimp only
    rw [m_isDigit, bs_some]
    dsimp only
    rw [if_pos (b10.mpr (fun z => q (Or.inr z)))]
  induction k with
  | zero =>
    intro j p s a hp hj hf h hto
    obtain ⟨j, rfl⟩ : ∃ i, j = i + 1 := ⟨j - 1, by omega⟩
    have hna : ¬ isA (B p) := fun q => by have := hT.al q; omega
    refine ⟨a, ?_, fun _ => by rw [show alE B 0 p = p from rfl, Nat.sub_self]; rfl⟩
    rw [hstop j p s a (by omega) h hto hna, show alE B 0 p = p from rfl, mSI_self hto]
  | succ k ih =>
    intro j p s a hp hj hf h hto
    obtain ⟨j, rfl⟩ : ∃ i, j = i + 1 := ⟨j - 1, by omega⟩
    by_cases q : isA (B p)
    · have hae : alE B (k + 1) p = alE B k (p + 1) := by show (if isA (B p) then _ else _) = _; rw [if_pos q]
      have hab := alE_b B k (p + 1)
      have hJ : f_X12_nextPattern_J102 n l1 l4 (nI st) (f_X12_nextPattern_L74 n l1 l4 (nI st) j) s a = f_X12_nextPattern_L74 n l1 l4 (nI st) j (mSI s 10 (nI (p + 1))) (if p - st < 6 then s37 a (B p) else a) := by
        unfold f_X12_nextPattern_J102 f_X12_nextPattern_J138
        rw [hto, nI_sub hf]
        by_cases h8 : p - st < 6
        · rw [if_neg (show ¬ (6 : Int32) ≤ nI (p - st) from fun z => absurd ((nI_leI (a := 6) (by decide) (by omega)).mp z) (by omega)), m_at hT h (by omega), bs_some]
          dsimp only
          rw [m_digitOf q, bs_some]
          dsimp only
          rw [bs_some, hto, nI_1, if_pos h8]
          rfl
        · rw [if_pos (show (6 : Int32) ≤ nI (p - st) from (nI_leI (a := 6) (by decide) (by omega)).mpr (by omega)), bs_some, nI_1, if_neg h8]
      obtain ⟨v, e1, e2⟩ := ih j (p + 1) (mSI s 10 (nI (p + 1))) (if p - st < 6 then s37 a (B p) else a) (by omega) (by omega) (by omega) h mI_SIe
      refine ⟨v, ?_, ?_⟩
      · have hgo : f_X12_nextPattern_L74 n l1 l4 (nI st) (j + 1) s a = f_X12_nextPattern_J102 n l1 l4 (nI st) (f_X12_nextPattern_L74 n l1 l4 (nI st) j) s a := by
          rw [u_X12_nextPattern_L74, hto, m_at hT h (by omega), bs_some]
          dsimp only
          rw [m_isLetter, bs_some]
          dsimp only
          by_cases ql : isL (B p)
          · rw [if_neg (fun e => b10.mp e ql)]
          · rw [if_pos (b10.mpr ql), hto, m_at hT h (by omega), bs_some]
            dsimp only
            rw [m_isDigit, bs_some]
            dsimp only
            rw [if_neg (fun e => b10.mp e (q.resolve_left ql))]
        rw [hgo, hJ, e1, hae, mSI_SI]
      · intro h8
        rw [hae] at h8 ⊢
        rw [e2 h8, if_pos (by omega), show alE B k (p + 1) - p = (alE B k (p + 1) - (p + 1)) + 1 by omega]
        rfl
    · refine ⟨a, ?_, fun _ => ?_⟩
      · rw [hstop j p s a (by omega) h hto q, show alE B (k + 1) p = p by unfold alE; rw [if_neg q], mSI_self hto]
      · rw [show alE B (k + 1) p = p by unfold alE; rw [if_neg q], Nat.sub_self]; rfl
theorem pt0 {B : Nat → Int32} {N k p : Nat} (h : ¬ (B p = 47 ∧ isA (B (p + 1)))) : ptS B N k p = [] ∧ ptE B N k p = p := by
  cases k with
  | zero => exact ⟨rfl, rfl⟩
  | succ k =>
    unfold ptS ptE
    rw [if_neg h, if_neg h]
    exact ⟨rfl, rfl⟩
theorem m_patL {n : Nat} {B : Nat → Int32} {N ms : Nat} (hT : TB B N) (hn : 5000 ≤ n) (hm5 : ms ≤ 5) : ∀ (k j p c : Nat) (g : Int32) (s : md_S), (g = 0 ∨ g = 1) → p < N → N ≤ p + k → k < j → MT s B N → mI s 10 = nI p → B p = 47 → mI s 14 = nI c → c ≤ p → mI s 15 = 0 → mI s 16 = nI ms →
    ∃ s', f_X12_nextPattern_L14 n j s g 1 = some (s', (if g = 1 ∧ ptG (ptS B N k p) ∧ (c + (ptS B N k p).length ≤ ms ∨ ptS B N k p = []) then 1 else 0), 0) ∧ md_fr [10, 13, 14, 15] s s' ∧ mI s' 10 = nI (if ptT B (ptE B N k p) = 0 then ptE B N k p else ptE B N k p + 2) ∧ mI s' 14 = nI (c + (ptS B N k p).length) ∧ mI s' 15 = nI (ptT B (ptE B N k p)) ∧ (∀ i, i < c → mL s' 13 i = mL s 13 i) ∧ ∀ i e, (ptS B N k p)[i]? = some e → c + i < ms → e.2 - e.1 ≤ 6 → mL s' 13 (c + i) = c37 B (e.2 - e.1) e.1 0 := by
  have hN := hT.1
  intro k
  induction k with
  | zero => intro j p c g s _ hp hk; omega
  | succ k ih =>
  intro j p c g s hg hp hk hj h hto h47 hst hcp htl hmost
  obtain ⟨j, rfl⟩ : ∃ i, j = i + 2 := ⟨j - 2, by omega⟩
  have hend : ∀ (t : md_S) (g' : Int32), f_X12_nextPattern_L14 n (j + 1) t g' 0 = some (t, g', 0) := fun t g' => by rw [u_X12_nextPattern_L14, if_pos rfl]
  have hat1 : f_X12_at n s (nI (p + 1)) = some (B (p + 1), s) := m_at hT h (by omega)
  have hgo : f_X12_nextPattern_L14 n (j + 2) s g 1 = f_X12_nextPattern_J48 n (f_X12_nextPattern_L14 n (j + 1)) s g (B (p + 1)) (if isA (B (p + 1)) then 1 else 0) := by
    rw [u_X12_nextPattern_L14, if_neg (by decide), hto, nI_1, hat1, bs_some]
    dsimp only
    rw [m_isLetter, bs_some]
    dsimp only
    unfold f_X12_nextPattern_J43
    by_cases ql : isL (B (p + 1))
    · rw [if_neg (fun e => b10.mp e ql), if_pos (Or.inl ql)]
    · rw [if_pos (b10.mpr ql), m_isDigit, bs_some]
      dsimp only
      by_cases qd : isD (B (p + 1))
      · rw [if_neg (fun e => b10.mp e qd), if_pos (Or.inr qd)]
      · rw [if_pos (b10.mpr qd), if_neg (fun z => z.elim ql qd)]
  rw [hgo]
  by_cases hA : isA (B (p + 1))
  · rw [if_pos hA]
    have hpN1 := hT.al hA
    obtain ⟨p', hp'⟩ : ∃ p', p' = alE B (N - (p + 1)) (p + 1) := ⟨_, rfl⟩
    have hab := alE_b B (N - (p + 1)) (p + 1)
    have hag := alE_gt (B := B) (k := N - (p + 1)) (p := p + 1) (by omega) hA
    rw [← hp'] at hab hag
    have eS : ptS B N (k + 1) p = (p + 1, p') :: ptS B N k p' := by
      show (if B p = 47 ∧ isA (B (p + 1)) then _ else _) = _
      rw [if_pos ⟨h47, hA⟩, hp']
    have eE : ptE B N (k + 1) p = ptE B N k p' := by
      show (if B p = 47 ∧ isA (B (p + 1)) then _ else _) = _
      rw [if_pos ⟨h47, hA⟩, hp']
    obtain ⟨v, w1, w2⟩ := m_stepL (n := n) (st := p + 1) hT g 1 (N - (p + 1)) n (p + 1) (mSI s 10 (nI (p + 1))) 0 (by omega) (by omega) (Nat.le_refl _) (h.to _) mI_SIe
    rw [← hp', mSI_SI] at w1
    rw [← hp'] at w2
    -- the state behind the step
    obtain ⟨s2, hs2⟩ : ∃ s2, s2 = mSI (if c < ms then mSL (mSI s 10 (nI p')) 13 c v else mSI s 10 (nI p')) 14 (nI (c + 1)) := ⟨_, rfl⟩
    have g2 : (if g = 1 ∧ p' - (p + 1) ≤ 6 ∧ c < ms then (1 : Int32) else 0) = 0 ∨ (if g = 1 ∧ p' - (p + 1) ≤ 6 ∧ c < ms then (1 : Int32) else 0) = 1 := by split <;> simp
    have fr2 : md_fr [10, 13, 14, 15] s s2 := by
      rw [hs2]
      refine md_fr_SI ?_ (by decide) _
      split
      · exact md_fr_SL (md_fr_SI (md_fr_refl _ _) (by decide) _) (by decide) _ _
      · exact md_fr_SI (md_fr_refl _ _) (by decide) _
    have t10 : mI s2 10 = nI p' := by
      rw [hs2, mI_SIo (by decide)]
      split
      · rw [mI_SL, mI_SIe]
      · rw [mI_SIe]
    have t14 : mI s2 14 = nI (c + 1) := by rw [hs2, mI_SIe]
    have t15 : mI s2 15 = 0 := by
      rw [hs2, mI_SIo (by decide)]
      split
      · rw [mI_SL, mI_SIo (by decide)]; exact htl
      · rw [mI_SIo (by decide)]; exact htl
    have t16 : mI s2 16 = nI ms := by rw [md_frI fr2 (by decide)]; exact hmost
    have tL : ∀ i, i < c → mL s2 13 i = mL s 13 i := fun i hi => by
      rw [hs2, mL_SI]
      split
      · rw [mL_SLi (by omega), mL_SI]
      · rw [mL_SI]
    have tLc : c < ms → mL s2 13 c = v := fun hc => by rw [hs2, mL_SI, if_pos hc, mL_SLe]
    have hstep : f_X12_nextPattern_J48 n (f_X12_nextPattern_L14 n (j + 1)) s g (B (p + 1)) 1 = f_X12_nextPattern_J258 n (f_X12_nextPattern_L14 n (j + 1)) s2 (if g = 1 ∧ p' - (p + 1) ≤ 6 ∧ c < ms then 1 else 0) 1 := by
      have hJ185 : ∀ t0 : Int32, f_X12_nextPattern_J185 n (f_X12_nextPattern_L14 n (j + 1)) (mSI s 10 (nI p')) 1 v t0 = f_X12_nextPattern_J258 n (f_X12_nextPattern_L14 n (j + 1)) s2 t0 1 := fun t0 => by
        unfold f_X12_nextPattern_J185 f_X12_nextPattern_J208
        rw [mI_SIo (by decide), mI_SIo (by decide), hmost, hst, hs2]
        by_cases hc : c < ms
        · rw [if_neg (fun z => absurd ((nI_leI (by omega) (by omega)).mp z) (by omega)), m_st13 (by omega), bs_some, bs_some, mI_SL, mI_SIo (by decide), hst, nI_1, if_pos hc]
        · rw [if_pos ((nI_leI (by omega) (by omega)).mpr (by omega)), bs_some, nI_1, if_neg hc]
      unfold f_X12_nextPattern_J48 f_X12_nextPattern_J184
      rw [if_neg (by decide), bs_some, mI_SIe, hto, nI_1, w1, bs_some]
      dsimp only
      rw [hJ185, hJ185, mI_SIe, nI_sub (by omega), mI_SIo (by decide), mI_SIo (by decide), hmost, hst]
      rcases hg with rfl | rfl
      · rw [if_pos rfl, if_neg (fun q => absurd q.1 (by decide))]
      · rw [if_neg (by decide)]
        by_cases h6 : p' - (p + 1) ≤ 6
        · rw [if_neg (show ¬ (6 : Int32) < nI (p' - (p + 1)) from fun z => absurd ((nI_ltI (a := 6) (by decide) (by omega)).mp z) (by omega))]
          by_cases hc : c < ms
          · rw [if_neg (fun z => absurd ((nI_leI (by omega) (by omega)).mp z) (by omega)), if_pos ⟨rfl, h6, hc⟩]
          · rw [if_pos ((nI_leI (by omega) (by omega)).mpr (by omega)), if_neg (fun z => hc z.2.2)]
        · rw [if_pos (show (6 : Int32) < nI (p' - (p + 1)) from (nI_ltI (a := 6) (by decide) (by omega)).mpr (by omega)), if_neg (fun z => h6 z.2.1)]
    have h258 : f_X12_nextPattern_J258 n (f_X12_nextPattern_L14 n (j + 1)) s2 (if g = 1 ∧ p' - (p + 1) ≤ 6 ∧ c < ms then 1 else 0) 1 = f_X12_nextPattern_L14 n (j + 1) s2 (if g = 1 ∧ p' - (p + 1) ≤ 6 ∧ c < ms then 1 else 0) (if B p' = 47 then 1 else 0) := by
      unfold f_X12_nextPattern_J258 f_X12_nextPattern_J280 f_X12_nextPattern_J281
      rw [if_neg (by decide), t10, m_at hT (h.of fr2 (by decide) (by decide)) (by omega), bs_some]
      dsimp only
      by_cases q : B p' = 47
      · rw [if_pos q, if_pos q]
      · rw [if_neg q, if_neg q]
    rw [hstep, h258, eS, eE]
    have hgood : ∀ L : List (Nat × Nat), ((if g = 1 ∧ p' - (p + 1) ≤ 6 ∧ c < ms then (1 : Int32) else 0) = 1 ∧ ptG L ∧ (c + 1 + L.length ≤ ms ∨ L = [])) ↔ (g = 1 ∧ ptG ((p + 1, p') :: L) ∧ (c + ((p + 1, p') :: L).length ≤ ms ∨ (p + 1, p') :: L = [])) := fun L => by
      rw [List.length_cons]
      constructor
      · intro ⟨q1, q2, q3⟩
        split at q1
        · rename_i q
          refine ⟨q.1, fun e he => ?_, Or.inl ?_⟩
          · rcases List.mem_cons.mp he with q5 | q5
            · rw [q5]; exact q.2.1
            · exact q2 e q5
          · rcases q3 with q3 | q3
            · omega
            · rw [q3]; simp; omega
        · exact absurd q1 (by decide)
      · intro ⟨q1, q2, q3⟩
        have q3 : c + (L.length + 1) ≤ ms := q3.resolve_right (fun z => nomatch z)
        exact ⟨by rw [if_pos ⟨q1, q2 _ List.mem_cons_self, by omega⟩], fun e he => q2 e (List.mem_cons_of_mem _ he), Or.inl (by omega)⟩
    have hcl : ∀ L : List (Nat × Nat), c + 1 + L.length = c + ((p + 1, p') :: L).length := fun L => by rw [List.length_cons]; omega
    by_cases q : B p' = 47
    · rw [if_pos q]
      have hp'N : p' < N := hT.neg (by rw [q]; decide)
      obtain ⟨s', a1, a2, a3, a4, a5, a6, a7⟩ := ih (j + 1) p' (c + 1) (if g = 1 ∧ p' - (p + 1) ≤ 6 ∧ c < ms then 1 else 0) s2 g2 hp'N (by omega) (by omega) (h.of fr2 (by decide) (by decide)) t10 q t14 (by omega) t15 t16
      refine ⟨s', ?_, md_fr_tr fr2 a2 (fun _ z => ⟨z, z⟩), a3, by rw [a4, hcl], a5, fun i hi => by rw [a6 i (by omega), tL i hi], ?_⟩
      · rw [a1]
        by_cases qq : (g = 1 ∧ ptG ((p + 1, p') :: ptS B N k p') ∧ (c + ((p + 1, p') :: ptS B N k p').length ≤ ms ∨ (p + 1, p') :: ptS B N k p' = []))
        · rw [if_pos ((hgood _).mpr qq), if_pos qq]
        · rw [if_neg (fun z => qq ((hgood _).mp z)), if_neg qq]
      · intro i e he hi h6
        cases i with
        | zero =>
          have he : (p + 1, p') = e := by simpa using he
          subst he
          rw [Nat.add_zero, a6 c (by omega), tLc (by omega)]
          exact w2 h6
        | succ i =>
          have he : (ptS B N k p')[i]? = some e := by simpa using he
          have := a7 i e he (by omega) h6
          rw [show c + (i + 1) = c + 1 + i by omega]; exact this
    · rw [if_neg q, hend]
      obtain ⟨z1, z2⟩ := pt0 (B := B) (N := N) (k := k) (p := p') (fun z => q z.1)
      have zt : ptT B p' = 0 := by unfold ptT; rw [if_neg q]
      rw [z1, z2, zt, if_pos rfl]
      refine ⟨s2, ?_, fr2, t10, by rw [t14, List.length_cons]; rfl, by rw [t15]; rfl, tL, ?_⟩
      · have hl := hgood []
        have e0 : ((if g = 1 ∧ p' - (p + 1) ≤ 6 ∧ c < ms then (1 : Int32) else 0) = 1 ∧ ptG [] ∧ (c + 1 + ([] : List (Nat × Nat)).length ≤ ms ∨ ([] : List (Nat × Nat)) = [])) ↔ (if g = 1 ∧ p' - (p + 1) ≤ 6 ∧ c < ms then (1 : Int32) else 0) = 1 := ⟨fun z => z.1, fun z => ⟨z, fun e he => absurd he (by simp), Or.inr rfl⟩⟩
        rw [e0] at hl
        by_cases qq : (g = 1 ∧ ptG [(p + 1, p')] ∧ (c + [(p + 1, p')].length ≤ ms ∨ [(p + 1, p')] = []))
        · rw [hl.mpr qq, if_pos qq]
        · rw [if_neg qq]
          rcases g2 with g2 | g2
          · rw [g2]
          · exact absurd (hl.mp g2) qq
      · intro i e he hi h6
        cases i with
        | zero =>
          have he : (p + 1, p') = e := by simpa using he
          subst he
          rw [Nat.add_zero, tLc (by omega)]
          exact w2 h6
        | succ i => simp at he
  · rw [if_neg hA]
    obtain ⟨z1, z2⟩ := pt0 (B := B) (N := N) (k := k + 1) (p := p) (fun z => hA z.2)
    rw [z1, z2]
    have hg0 : (if g = 1 ∧ ptG [] ∧ (c + ([] : List (Nat × Nat)).length ≤ ms ∨ ([] : List (Nat × Nat)) = []) then (1 : Int32) else 0) = g := by
      rcases hg with rfl | rfl
      · rw [if_neg (fun q => absurd q.1 (by decide))]
      · rw [if_pos ⟨rfl, fun e he => absurd he (by simp), Or.inr rfl⟩]
    rw [hg0]
    have h258 : ∀ t : md_S, f_X12_nextPattern_J258 n (f_X12_nextPattern_L14 n (j + 1)) t g 0 = some (t, g, 0) := fun t => by
      unfold f_X12_nextPattern_J258 f_X12_nextPattern_J280 f_X12_nextPattern_J281
      rw [if_pos rfl, hend]
    have h245 : ∀ t0 : Int32, f_X12_nextPattern_J245 n (f_X12_nextPattern_L14 n (j + 1)) s g 0 t0 = some (mSI (mSI s 15 t0) 10 (nI (p + 2)), g, 0) := fun t0 => by
      unfold f_X12_nextPattern_J245
      rw [bs_some, bs_some, mI_SIo (by decide), hto, show (2 : Int32) = nI 2 from rfl, nI_add, h258]
    unfold f_X12_nextPattern_J48 f_X12_nextPattern_J233
    rw [if_pos rfl]
    have htail : ∀ t0 : Nat, t0 ≠ 0 → ptT B p = t0 → ∃ s', (some (mSI (mSI s 15 (nI t0)) 10 (nI (p + 2)), g, (0 : Int32)) : Option (md_S × Int32 × Int32)) = some (s', g, 0) ∧ md_fr [10, 13, 14, 15] s s' ∧ mI s' 10 = nI (if ptT B p = 0 then p else p + 2) ∧ mI s' 14 = nI (c + ([] : List (Nat × Nat)).length) ∧ mI s' 15 = nI (ptT B p) ∧ (∀ i, i < c → mL s' 13 i = mL s 13 i) ∧ ∀ i e, ([] : List (Nat × Nat))[i]? = some e → c + i < ms → e.2 - e.1 ≤ 6 → mL s' 13 (c + i) = c37 B (e.2 - e.1) e.1 0 := by
      intro t0 h0 ht
      refine ⟨_, rfl, md_fr_SI (md_fr_SI (md_fr_refl _ _) (by decide) _) (by decide) _, by rw [mI_SIe, ht, if_neg h0], by rw [mI_SIo (by decide), mI_SIo (by decide)]; exact hst, by rw [mI_SIo (by decide), mI_SIe, ht], fun i hi => rfl, fun i e he => by simp at he⟩
    by_cases h42 : B (p + 1) = 42
    · rw [if_pos h42, if_pos h42, h245]
      exact htail 1 (by decide) (by unfold ptT; rw [if_pos h47, if_pos h42])
    · rw [if_neg h42]
      by_cases h45 : B (p + 1) = 45
      · rw [if_pos h45, if_neg h42, h245]
        exact htail 2 (by decide) (by unfold ptT; rw [if_pos h47, if_neg h42, if_pos h45])
      · have ht : ptT B p = 0 := by unfold ptT; rw [if_pos h47, if_neg h42, if_neg h45]
        rw [if_neg h45, h258]
        exact ⟨s, rfl, md_fr_refl _ _, by rw [ht, if_pos rfl]; exact hto, hst, by rw [ht]; exact htl, fun _ _ => rfl, fun i e he => by simp at he⟩
