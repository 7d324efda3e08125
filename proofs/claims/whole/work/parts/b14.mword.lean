/-! the model's word, by the class's kind -/
def vks : List Int32 := [0, 2, 3, 4, 123, 125, 40, 41, 91, 93, 44, 59, 58, 61, 46, 43, 45, 42, 60, 200, 201, 210, 211, 212, 213, 214, 215, 216, 217, 218, 219, 220, 221, 222, 223, 224, 225, 226, 227, 228, 229, 230, 231, 232]
def mWd (k : Int32) : Int32 := if k = 0 then 0 else if k = 2 then 1 else if k = 3 then 3 else if k = 4 then 4 else if 210 ≤ k then 2 else 5
def mVl (k : Int32) : Int32 := if k = 200 then 256 else if k = 201 then 257 else if 210 ≤ k then k - 210 else k
def PM (m : md_S) (PS : List Int64) : Prop := ∃ (cnt tl : Nat) (codes : List Int64), PS = lN cnt :: lN tl :: codes ∧ codes.length = cnt ∧ cnt ≤ 5 ∧ tl ≤ 2 ∧ mI m 14 = nI cnt ∧ mI m 15 = nI tl ∧ ∀ i, i < cnt → NR (codes.getD i 0) (mL m 13 i)
def MW (m : md_S) (w : WD) : Prop := wK w ∈ vks ∧ mI m 8 = mWd (wK w) ∧ (mWd (wK w) = 2 ∨ mWd (wK w) = 5 → mI m 11 = mVl (wK w)) ∧ mI m 9 = nI (wF w) ∧ mI m 10 = nI (wQ w) ∧ (wK w = 2 → NR (wX w) (mJ m 12)) ∧ (wK w = 3 → ∃ v, v ≤ 2147483647 ∧ wX w = lN v ∧ mI m 11 = nI v) ∧ (wK w = 4 → PM m (wP w))
theorem MW.mk {m : md_S} {k : Int32} {f q : Nat} {x : Int64} {PS : List Int64} (h1 : k ∈ vks) (h2 : mI m 8 = mWd k) (h3 : mWd k = 2 ∨ mWd k = 5 → mI m 11 = mVl k) (h4 : mI m 9 = nI f) (h5 : mI m 10 = nI q) (h6 : k = 2 → NR x (mJ m 12)) (h7 : k = 3 → ∃ v, v ≤ 2147483647 ∧ x = lN v ∧ mI m 11 = nI v) (h8 : k = 4 → PM m PS) : MW m (k, f, q, x, PS) := ⟨h1, h2, h3, h4, h5, h6, h7, h8⟩
theorem MW.of {m t : md_S} {w : WD} (h : MW m w) {L : List Nat} (hf : md_fr L m t) (hL : ∀ k, k ∈ [8, 9, 10, 11, 12, 13, 14, 15] → k ∉ L) : MW t w := by
  obtain ⟨h1, h2, h3, h4, h5, h6, h7, h8⟩ := h
  refine ⟨h1, (md_frI hf (hL 8 (by decide))).trans h2, fun q => (md_frI hf (hL 11 (by decide))).trans (h3 q), (md_frI hf (hL 9 (by decide))).trans h4, (md_frI hf (hL 10 (by decide))).trans h5, fun q => by rw [md_frJ hf (hL 12 (by decide))]; exact h6 q, fun q => ?_, fun q => ?_⟩
  · obtain ⟨v, a1, a2, a3⟩ := h7 q
    exact ⟨v, a1, a2, (md_frI hf (hL 11 (by decide))).trans a3⟩
  · obtain ⟨c, tl, cs, a1, a2, a3, a4, a5, a6, a7⟩ := h8 q
    exact ⟨c, tl, cs, a1, a2, a3, a4, (md_frI hf (hL 14 (by decide))).trans a5, (md_frI hf (hL 15 (by decide))).trans a6, fun i hi => by rw [md_frL hf (hL 13 (by decide))]; exact a7 i hi⟩
theorem ptS_al {B : Nat → Int32} {N : Nat} : ∀ {k p : Nat} {e : Nat × Nat}, e ∈ ptS B N k p → e.1 ≤ e.2 ∧ ∀ i, e.1 ≤ i → i < e.2 → isA (B i)
  | 0, p, e, h => absurd h (by unfold ptS; simp)
  | k + 1, p, e, h => by
    unfold ptS at h
    split at h
    · rcases List.mem_cons.mp h with q | q
      · rw [q]
        exact ⟨(alE_b B _ _).1, fun i h1 h2 => alE_al B _ _ i h1 h2⟩
      · exact ptS_al q
    · exact absurd h (by simp)
theorem kwk_v (x : Int64) : kwk x ∈ vks := by
  unfold kwk
  split
  · rename_i h
    have h2 : ∀ i : Fin 23, nI (210 + i.val) ∈ vks := by decide
    exact h2 ⟨_, h⟩
  · decide
theorem m_next {n : Nat} {B : Nat → Int32} {N ms p kept : Nat} {m : md_S} {k : Int32} {f q : Nat} {x : Int64} {PS : List Int64} (hT : TB B N) (hn : 5000 ≤ n) (hm5 : ms ≤ 5) (hp : p ≤ N) (h : MT m B N) (hfi : mI m 6 = 0) (hto : mI m 10 = nI p) (hms : mI m 16 = nI ms) (t : Tok B N ms p kept k f q x PS) :
    ∃ m', f_X12_next n m = some (0, m') ∧ md_fr [6, 7, 8, 9, 10, 11, 12, 13, 14, 15] m m' ∧ (k = 1 → mI m' 6 = 1 ∧ mI m' 7 = nI f ∧ mI m' 8 = 0) ∧ (k ≠ 1 → mI m' 6 = 0 ∧ mI m' 7 = mI m 7 ∧ MW m' (k, f, q, x, PS)) := by
  have hN := hT.1
  have hbd := Tok_adv hT hp t
  obtain ⟨tf, tq, t⟩ := t
  obtain ⟨m1, hm1⟩ : ∃ m1, m1 = mSI (mSI m 10 (nI f)) 9 (nI f) := ⟨_, rfl⟩
  have fr1 : md_fr [6, 7, 8, 9, 10, 11, 12, 13, 14, 15] m m1 := by rw [hm1]; exact md_fr_SI (md_fr_SI (md_fr_refl _ _) (by decide) _) (by decide) _
  have h1 : MT m1 B N := h.of fr1 (by decide) (by decide)
  have a6 : mI m1 6 = 0 := by rw [hm1, mI_SIo (by decide), mI_SIo (by decide)]; exact hfi
  have a7 : mI m1 7 = mI m 7 := by rw [hm1, mI_SIo (by decide), mI_SIo (by decide)]
  have a9 : mI m1 9 = nI f := by rw [hm1, mI_SIe]
  have a10 : mI m1 10 = nI f := by rw [hm1, mI_SIo (by decide), mI_SIe]
  have a16 : mI m1 16 = nI ms := by rw [md_frI fr1 (by decide)]; exact hms
  have hfine : f_X12_isFine n m = some (1, m) := by unfold f_X12_isFine; rw [if_pos hfi]
  have hgo : f_X12_next n m = if B f = -1 then some (0, mSI m1 8 0) else if isL (B f) then (Option.bind (f_X12_nextName n m1) fun p17 => some ((0 : Int32), p17.2)) else if isD (B f) then (Option.bind (f_X12_nextNumber n m1) fun p16 => some ((0 : Int32), p16.2)) else if B f = 47 then (Option.bind (f_X12_nextPattern n m1) fun p15 => some ((0 : Int32), p15.2)) else (Option.bind (f_X12_nextSign n m1 (B f)) fun p14 => some ((0 : Int32), p14.2)) := by
    unfold f_X12_next
    rw [hfine, bs_some]
    dsimp only
    rw [if_neg (by decide), m_skL hT hn (N - p) n p m (by omega) (by omega) h hto, ← tf, bs_some]
    dsimp only
    rw [bs_some, mI_SIe, ← hm1, a10, m_at hT h1 (by omega), bs_some]
    dsimp only
    by_cases qm : B f = -1
    · rw [if_pos qm, if_pos qm, bs_some]
    · rw [if_neg qm, if_neg qm, m_isLetter, bs_some]
      dsimp only
      by_cases ql : isL (B f)
      · rw [if_neg (fun e => b10.mp e ql), if_pos ql]
      · rw [if_pos (b10.mpr ql), if_neg ql, m_isDigit, bs_some]
        dsimp only
        by_cases qd : isD (B f)
        · rw [if_neg (fun e => b10.mp e qd), if_pos qd]
        · rw [if_pos (b10.mpr qd), if_neg qd]
  rw [hgo]
  rcases t with t | t | t | t | t
  · obtain ⟨t1, t2, t3, t4, t5⟩ := t
    have qm : B f = -1 := hT.m1.mpr (by omega)
    rw [if_pos qm]
    refine ⟨_, rfl, md_fr_SI fr1 (by decide) _, fun z => absurd (t2.symm.trans z) (by decide), fun _ => ⟨by rw [mI_SIo (by decide)]; exact a6, by rw [mI_SIo (by decide)]; exact a7, ?_⟩⟩
    subst t2
    exact MW.mk (by decide) (by rw [mI_SIe]; rfl) (fun z => absurd z (by decide)) (by rw [mI_SIo (by decide)]; exact a9) (by rw [mI_SIo (by decide), a10, t3]) (fun z => absurd z (by decide)) (fun z => absurd z (by decide)) (fun z => absurd z (by decide))
  · obtain ⟨t1, t2, t3, t4, t5, t6⟩ := t
    have qm : ¬ B f = -1 := fun z => by have := hT.m1.mp z; omega
    obtain ⟨nm, e1, e2⟩ := m_nameL (n := n) (f := f) hT (N - f) n f (mSJ m1 12 0) (by omega) (by omega) (Nat.le_refl _) h1 a10 a9
    rw [mSJ_SJ, ← t3] at e1
    rw [← t3, mJ_SJe] at e2
    rw [if_neg qm, if_pos t2]
    unfold f_X12_nextName
    rw [bs_some, e1, bs_some, mI_SIe, mI_SIo (by decide), mI_SJ, a9, nI_sub hbd.2.1]
    have fr2 : md_fr [6, 7, 8, 9, 10, 11, 12, 13, 14, 15] m (mSI (mSJ m1 12 nm) 10 (nI q)) := md_fr_SI (md_fr_SJ fr1 (by decide) _) (by decide) _
    by_cases h8 : q - f ≤ 8
    · rw [if_pos (show nI (q - f) ≤ (8 : Int32) from (nI_leI (b := 8) (by omega) (by decide)).mpr h8), mJ_SI, mJ_SJe, m_keywordOf hn, bs_some]
      dsimp only
      rw [bs_some, mI_SIe]
      unfold f_X12_nextName_J137
      rw [bs_some, bs_some]
      have hA : ∀ i, f ≤ i → i < f + (q - f) → isA (B i) := fun i h1 h2 => alE_al B (N - f) f i h1 (by rw [← t3]; omega)
      have hnr : NR x nm := by rw [t4, e2 h8]; exact NR_text hA h8
      rw [kwx_y hnr (by omega)]
      rw [if_pos h8] at t5
      by_cases hk : kwx x 23 0 < 23
      · rw [if_pos hk, if_neg (show ¬ nI (kwx x 23 0) = -1 from nI_m1 (by omega)), bs_some]
        have hk2 : k = nI (210 + kwx x 23 0) := by rw [t5]; unfold kwk; rw [if_pos hk]
        have hd1 : ∀ i : Fin 23, mWd (nI (210 + i.val)) = 2 ∧ mVl (nI (210 + i.val)) = nI i.val ∧ nI (210 + i.val) ∈ vks ∧ nI (210 + i.val) ≠ 1 ∧ nI (210 + i.val) ≠ 2 ∧ nI (210 + i.val) ≠ 3 ∧ nI (210 + i.val) ≠ 4 := by decide
        obtain ⟨d1, d2, d3, d4, d5, d6, d7⟩ := hd1 ⟨_, hk⟩
        dsimp only at d1 d2 d3 d4 d5 d6 d7
        rw [← hk2] at d1 d2 d3 d4 d5 d6 d7
        refine ⟨_, rfl, md_fr_SI (md_fr_SI fr2 (by decide) _) (by decide) _, fun z => absurd z d4, fun _ => ⟨?_, ?_, MW.mk d3 ?_ (fun _ => ?_) ?_ ?_ (fun z => absurd z d5) (fun z => absurd z d6) (fun z => absurd z d7)⟩⟩
        · rw [mI_SIo (by decide), mI_SIo (by decide), mI_SIo (by decide), mI_SJ]; exact a6
        · rw [mI_SIo (by decide), mI_SIo (by decide), mI_SIo (by decide), mI_SJ]; exact a7
        · rw [mI_SIe]; exact d1.symm
        · rw [mI_SIo (by decide), mI_SIe]; exact d2.symm
        · rw [mI_SIo (by decide), mI_SIo (by decide), mI_SIo (by decide), mI_SJ]; exact a9
        · rw [mI_SIo (by decide), mI_SIo (by decide), mI_SIe]
      · rw [if_neg hk, if_pos rfl, bs_some]
        have hk2 : k = 2 := by rw [t5]; unfold kwk; rw [if_neg hk]
        subst hk2
        refine ⟨_, rfl, md_fr_SI (md_fr_SI fr2 (by decide) _) (by decide) _, fun z => absurd z (by decide), fun _ => ⟨?_, ?_, MW.mk (by decide) ?_ (fun z => absurd z (by decide)) ?_ ?_ (fun _ => ?_) (fun z => absurd z (by decide)) (fun z => absurd z (by decide))⟩⟩
        · rw [mI_SIo (by decide), mI_SIo (by decide), mI_SIo (by decide), mI_SJ]; exact a6
        · rw [mI_SIo (by decide), mI_SIo (by decide), mI_SIo (by decide), mI_SJ]; exact a7
        · rw [mI_SIe]; rfl
        · rw [mI_SIo (by decide), mI_SIo (by decide), mI_SIo (by decide), mI_SJ]; exact a9
        · rw [mI_SIo (by decide), mI_SIo (by decide), mI_SIe]
        · rw [mJ_SI, mJ_SI, mJ_SI, mJ_SJe]; exact hnr
    · rw [if_neg (show ¬ nI (q - f) ≤ (8 : Int32) from fun z => h8 ((nI_leI (b := 8) (by omega) (by decide)).mp z)), m_fails (by rw [mI_SIo (by decide), mI_SJ]; exact a6), bs_some, bs_some]
      rw [if_neg h8] at t5
      refine ⟨_, rfl, md_fr_SI (md_fr_SI (md_fr_SI fr2 (by decide) _) (by decide) _) (by decide) _, fun _ => ⟨?_, ?_, ?_⟩, fun z => absurd t5 z⟩
      · rw [mI_SIo (by decide), mI_SIo (by decide), mI_SIe]
      · rw [mI_SIo (by decide), mI_SIe, mI_SIo (by decide), mI_SJ]; exact a9
      · rw [mI_SIe]
  · obtain ⟨t1, t2, t3, t4, t5, t6⟩ := t
    have qm : ¬ B f = -1 := fun z => by have := hT.m1.mp z; omega
    have ql : ¬ isL (B f) := fun z => by have := t2.2; have := z.1; omega
    have hv := nv_lt B (N - f) f 0 (by decide)
    rw [if_neg qm, if_neg ql, if_pos t2]
    unfold f_X12_nextNumber
    rw [show f_X12_nextNumber_L2 n n m1 0 = _ from m_numL hT (N - f) n f m1 0 (by decide) (by omega) (by omega) h1 a10, ← t3, bs_some]
    dsimp only
    have h63 : (lg_cmp (lN (nv B (N - f) f 0)) 2147483647 ≤ 0) ↔ nv B (N - f) f 0 ≤ 2147483647 := by
      rw [lg_cmp_le]; exact lN_le63 (b := 2147483647) (by omega) (by decide)
    have fr2 : md_fr [6, 7, 8, 9, 10, 11, 12, 13, 14, 15] m (mSI m1 10 (nI q)) := md_fr_SI fr1 (by decide) _
    by_cases h8 : nv B (N - f) f 0 ≤ 2147483647
    · rw [if_pos (h63.mpr h8), bs_some, bs_some, bs_some]
      rw [if_pos h8] at t5
      subst t5
      refine ⟨_, rfl, md_fr_SI (md_fr_SI fr2 (by decide) _) (by decide) _, fun z => absurd z (by decide), fun _ => ⟨?_, ?_, MW.mk (by decide) ?_ (fun z => absurd z (by decide)) ?_ ?_ (fun z => absurd z (by decide)) (fun _ => ⟨_, h8, t4, ?_⟩) (fun z => absurd z (by decide))⟩⟩
      · rw [mI_SIo (by decide), mI_SIo (by decide), mI_SIo (by decide)]; exact a6
      · rw [mI_SIo (by decide), mI_SIo (by decide), mI_SIo (by decide)]; exact a7
      · rw [mI_SIe]; rfl
      · rw [mI_SIo (by decide), mI_SIo (by decide), mI_SIo (by decide)]; exact a9
      · rw [mI_SIo (by decide), mI_SIo (by decide), mI_SIe]
      · rw [mI_SIo (by decide), mI_SIe, lN_i]
    · rw [if_neg (fun z => h8 (h63.mp z)), m_fails (by rw [mI_SIo (by decide)]; exact a6), bs_some, bs_some]
      rw [if_neg h8] at t5
      refine ⟨_, rfl, md_fr_SI (md_fr_SI (md_fr_SI fr2 (by decide) _) (by decide) _) (by decide) _, fun _ => ⟨?_, ?_, ?_⟩, fun z => absurd t5 z⟩
      · rw [mI_SIo (by decide), mI_SIo (by decide), mI_SIe]
      · rw [mI_SIo (by decide), mI_SIe, mI_SIo (by decide)]; exact a9
      · rw [mI_SIe]
  · obtain ⟨t1, t2, t3, t4, t5, t6⟩ := t
    have qm : ¬ B f = -1 := fun z => by have := hT.m1.mp z; omega
    have ql : ¬ isL (B f) := by rw [t2]; decide
    have qd : ¬ isD (B f) := by rw [t2]; decide
    rw [if_neg qm, if_neg ql, if_neg qd, if_pos t2]
    obtain ⟨s', e1, e2, e3, e4, e5, e6, e7⟩ := m_patL (n := n) (ms := ms) hT hn hm5 (N - f) n f 0 1 (mSI (mSI m1 14 0) 15 0) (Or.inr rfl) t1 (by omega) (by omega) h1 (by rw [mI_SIo (by decide), mI_SIo (by decide)]; exact a10) t2 (by rw [mI_SIo (by decide), mI_SIe]; rfl) (Nat.zero_le _) mI_SIe (by rw [mI_SIo (by decide), mI_SIo (by decide)]; exact a16)
    have fr3 : md_fr [6, 7, 8, 9, 10, 11, 12, 13, 14, 15] m s' := md_fr_tr (md_fr_SI (md_fr_SI fr1 (by decide) _) (by decide) _) e2 (fun k z => ⟨z, fun y => z (by simp at y; simp; omega)⟩)
    have b6 : mI s' 6 = 0 := by rw [md_frI e2 (by decide), mI_SIo (by decide), mI_SIo (by decide)]; exact a6
    have b7 : mI s' 7 = mI m 7 := by rw [md_frI e2 (by decide), mI_SIo (by decide), mI_SIo (by decide)]; exact a7
    have b9 : mI s' 9 = nI f := by rw [md_frI e2 (by decide), mI_SIo (by decide), mI_SIo (by decide)]; exact a9
    rw [Nat.zero_add] at e4
    have hpt := ptE_b B N (N - f) f (by omega) (by omega) hT
    have htl2 : ptT B (ptE B N (N - f) f) ≤ 2 := by
      unfold ptT
      repeat' split
      all_goals omega
    have hbad : ∃ m', (Option.bind (f_X12_nextPattern_J303 n s') fun p15 => some ((0 : Int32), p15.2)) = some (0, m') ∧ md_fr [6, 7, 8, 9, 10, 11, 12, 13, 14, 15] m m' ∧ mI m' 6 = 1 ∧ mI m' 7 = nI f ∧ mI m' 8 = 0 := by
      unfold f_X12_nextPattern_J303
      rw [m_fails b6, bs_some, bs_some]
      refine ⟨_, rfl, md_fr_SI (md_fr_SI (md_fr_SI fr3 (by decide) _) (by decide) _) (by decide) _, ?_, ?_, ?_⟩
      · rw [mI_SIo (by decide), mI_SIo (by decide), mI_SIe]
      · rw [mI_SIo (by decide), mI_SIe]; exact b9
      · rw [mI_SIe]
    have hgd : (k = 4) → ∃ m', (Option.bind (f_X12_nextPattern_J309 n s') fun p15 => some ((0 : Int32), p15.2)) = some (0, m') ∧ md_fr [6, 7, 8, 9, 10, 11, 12, 13, 14, 15] m m' ∧ mI m' 6 = 0 ∧ mI m' 7 = mI m 7 ∧ MW m' (k, f, q, x, PS) := by
      intro hk4
      have hcond : ptG (ptS B N (N - f) f) ∧ (ptS B N (N - f) f).length ≤ ms ∧ ((ptS B N (N - f) f).length ≠ 0 ∨ ptT B (ptE B N (N - f) f) ≠ 0) := by
        rw [t5] at hk4
        split at hk4
        · rename_i z; exact z
        · exact absurd hk4 (by decide)
      unfold f_X12_nextPattern_J309
      rw [bs_some, bs_some]
      subst hk4
      refine ⟨_, rfl, md_fr_SI fr3 (by decide) _, by rw [mI_SIo (by decide)]; exact b6, by rw [mI_SIo (by decide)]; exact b7, MW.mk (by decide) (by rw [mI_SIe]; rfl) (fun z => absurd z (by decide)) (by rw [mI_SIo (by decide)]; exact b9) (by rw [mI_SIo (by decide), e3, ← t3]) (fun z => absurd z (by decide)) (fun z => absurd z (by decide)) (fun _ => ⟨(ptS B N (N - f) f).length, ptT B (ptE B N (N - f) f), ptC B (ptS B N (N - f) f), t6, by unfold ptC; rw [List.length_map], by omega, htl2, by rw [mI_SIo (by decide)]; exact e4, by rw [mI_SIo (by decide)]; exact e5, fun i hi => ?_⟩)⟩
      have hi' := List.getElem?_eq_getElem hi
      have hmem : (ptS B N (N - f) f)[i] ∈ ptS B N (N - f) f := List.getElem_mem hi
      have h6 := hcond.1 _ hmem
      obtain ⟨al1, al2⟩ := ptS_al hmem
      have := e7 i _ hi' (by omega) h6
      rw [Nat.zero_add] at this
      rw [mL_SI, this]
      have hc : (ptC B (ptS B N (N - f) f)).getD i 0 = c64 B ((ptS B N (N - f) f)[i].2 - (ptS B N (N - f) f)[i].1) (ptS B N (N - f) f)[i].1 0 := by
        unfold ptC
        rw [List.getD_eq_getElem?_getD, List.getElem?_map, hi']; rfl
      rw [hc]
      exact NR_text (fun j h1 h2 => al2 j h1 (by omega)) (by omega)
    unfold f_X12_nextPattern
    rw [bs_some, bs_some, e1, bs_some]
    dsimp only
    have hgi : (if (1 : Int32) = 1 ∧ ptG (ptS B N (N - f) f) ∧ (0 + (ptS B N (N - f) f).length ≤ ms ∨ ptS B N (N - f) f = []) then (1 : Int32) else 0) = 0 ↔ ¬ (ptG (ptS B N (N - f) f) ∧ (ptS B N (N - f) f).length ≤ ms) := by
      rw [b10]
      constructor
      · intro z y; exact z ⟨rfl, y.1, Or.inl (by omega)⟩
      · intro z y
        refine z ⟨y.2.1, ?_⟩
        rcases y.2.2 with y3 | y3
        · omega
        · rw [y3]; exact Nat.zero_le _
    by_cases hg : ptG (ptS B N (N - f) f) ∧ (ptS B N (N - f) f).length ≤ ms
    · rw [if_neg (fun z => hgi.mp z hg), e4, e5]
      by_cases h0 : (ptS B N (N - f) f).length = 0
      · rw [if_pos (show nI (ptS B N (N - f) f).length = 0 by rw [h0]; rfl)]
        by_cases ht0 : ptT B (ptE B N (N - f) f) = 0
        · rw [if_pos (show nI (ptT B (ptE B N (N - f) f)) = 0 by rw [ht0]; rfl)]
          have hk1 : k = 1 := by rw [t5, if_neg (fun z => z.2.2.elim (fun y => y h0) (fun y => y ht0))]
          obtain ⟨m', c1, c2, c3⟩ := hbad
          exact ⟨m', c1, c2, fun _ => c3, fun z => absurd hk1 z⟩
        · rw [if_neg (show ¬ nI (ptT B (ptE B N (N - f) f)) = 0 from fun z => ht0 ((nI_eq (b := 0) (by omega) (by decide)).mp z))]
          have hk4 : k = 4 := by rw [t5, if_pos ⟨hg.1, hg.2, Or.inr ht0⟩]
          obtain ⟨m', c1, c2, c3⟩ := hgd hk4
          exact ⟨m', c1, c2, fun z => absurd (hk4.symm.trans z) (by decide), fun _ => c3⟩
      · rw [if_neg (show ¬ nI (ptS B N (N - f) f).length = 0 from fun z => h0 ((nI_eq (b := 0) (by omega) (by decide)).mp z))]
        have hk4 : k = 4 := by rw [t5, if_pos ⟨hg.1, hg.2, Or.inl h0⟩]
        obtain ⟨m', c1, c2, c3⟩ := hgd hk4
        exact ⟨m', c1, c2, fun z => absurd (hk4.symm.trans z) (by decide), fun _ => c3⟩
    · rw [if_pos (hgi.mpr hg)]
      have hk1 : k = 1 := by rw [t5, if_neg (fun z => hg ⟨z.1, z.2.1⟩)]
      obtain ⟨m', c1, c2, c3⟩ := hbad
      exact ⟨m', c1, c2, fun _ => c3, fun z => absurd hk1 z⟩
  · obtain ⟨t1, t2, t3, t4, t5, t6, t7⟩ := t
    have qm : ¬ B f = -1 := fun z => by have := hT.m1.mp z; omega
    rw [if_neg qm, if_neg (fun z => t2 (Or.inl z)), if_neg (fun z => t2 (Or.inr z)), if_neg t3]
    unfold f_X12_nextSign
    rw [bs_some, bs_some, bs_some, a10, nI_1]
    obtain ⟨m2, hm2⟩ : ∃ m2, m2 = mSI (mSI (mSI m1 10 (nI (f + 1))) 8 5) 11 (B f) := ⟨_, rfl⟩
    rw [← hm2]
    have fr2 : md_fr [6, 7, 8, 9, 10, 11, 12, 13, 14, 15] m m2 := by rw [hm2]; exact md_fr_SI (md_fr_SI (md_fr_SI fr1 (by decide) _) (by decide) _) (by decide) _
    have c6 : mI m2 6 = 0 := by rw [hm2, mI_SIo (by decide), mI_SIo (by decide), mI_SIo (by decide)]; exact a6
    have c7 : mI m2 7 = mI m 7 := by rw [hm2, mI_SIo (by decide), mI_SIo (by decide), mI_SIo (by decide)]; exact a7
    have c9 : mI m2 9 = nI f := by rw [hm2, mI_SIo (by decide), mI_SIo (by decide), mI_SIo (by decide)]; exact a9
    have c10 : mI m2 10 = nI (f + 1) := by rw [hm2, mI_SIo (by decide), mI_SIo (by decide), mI_SIe]
    have c8 : mI m2 8 = 5 := by rw [hm2, mI_SIo (by decide), mI_SIe]
    have c11 : mI m2 11 = B f := by rw [hm2, mI_SIe]
    have hat : f_X12_at n m2 (nI (f + 1)) = some (B (f + 1), m2) := m_at hT (h.of fr2 (by decide) (by decide)) (by omega)
    -- a sign of one byte, or none
    have h75 : f_X12_nextSign_J75 n m2 (B f) = if isS (B f) then some (0, m2) else some (0, mSI (mSI (mSI m2 6 1) 7 (nI f)) 8 0) := by
      have h180 : f_X12_nextSign_J180 n m2 0 = some (0, mSI (mSI (mSI m2 6 1) 7 (nI f)) 8 0) := by
        unfold f_X12_nextSign_J180
        rw [if_pos rfl, m_fails c6, bs_some, c9]
      have h175 : f_X12_nextSign_J175 n m2 = some (0, m2) := by
        unfold f_X12_nextSign_J175 f_X12_nextSign_J180
        rw [if_neg (by decide)]
      have h123 : f_X12_nextSign_J123 n m2 (B f) = some (0, m2) := by
        unfold f_X12_nextSign_J123 f_X12_nextSign_J128
        rw [if_neg (by decide), h175]
      unfold f_X12_nextSign_J75 f_X12_nextSign_J128
      rw [h123, h175, h180, if_pos (rfl : (0 : Int32) = 0)]
      by_cases y1 : B f = 123
      · rw [if_pos y1, if_pos (by rw [y1]; decide)]
      by_cases y2 : B f = 125
      · rw [if_neg y1, if_pos y2, if_pos (by rw [y2]; decide)]
      by_cases y3 : B f = 40
      · rw [if_neg y1, if_neg y2, if_pos y3, if_pos (by rw [y3]; decide)]
      by_cases y4 : B f = 41
      · rw [if_neg y1, if_neg y2, if_neg y3, if_pos y4, if_pos (by rw [y4]; decide)]
      by_cases y5 : B f = 91
      · rw [if_neg y1, if_neg y2, if_neg y3, if_neg y4, if_pos y5, if_pos (by rw [y5]; decide)]
      by_cases y6 : B f = 93
      · rw [if_neg y1, if_neg y2, if_neg y3, if_neg y4, if_neg y5, if_pos y6, if_pos (by rw [y6]; decide)]
      by_cases y7 : B f = 44
      · rw [if_neg y1, if_neg y2, if_neg y3, if_neg y4, if_neg y5, if_neg y6, if_pos y7, if_pos (by rw [y7]; decide)]
      by_cases y8 : B f = 59
      · rw [if_neg y1, if_neg y2, if_neg y3, if_neg y4, if_neg y5, if_neg y6, if_neg y7, if_pos y8, if_pos (by rw [y8]; decide)]
      rw [if_neg y1, if_neg y2, if_neg y3, if_neg y4, if_neg y5, if_neg y6, if_neg y7, if_neg y8]
      by_cases z1 : B f = 58
      · rw [if_pos z1, if_pos (by rw [z1]; decide)]
      by_cases z2 : B f = 61
      · rw [if_neg z1, if_pos z2, if_pos (by rw [z2]; decide)]
      by_cases z3 : B f = 46
      · rw [if_neg z1, if_neg z2, if_pos z3, if_pos (by rw [z3]; decide)]
      by_cases z4 : B f = 43
      · rw [if_neg z1, if_neg z2, if_neg z3, if_pos z4, if_pos (by rw [z4]; decide)]
      by_cases z5 : B f = 45
      · rw [if_neg z1, if_neg z2, if_neg z3, if_neg z4, if_pos z5, if_pos (by rw [z5]; decide)]
      by_cases z6 : B f = 42
      · rw [if_neg z1, if_neg z2, if_neg z3, if_neg z4, if_neg z5, if_pos z6, if_pos (by rw [z6]; decide)]
      by_cases z7 : B f = 60
      · rw [if_neg z1, if_neg z2, if_neg z3, if_neg z4, if_neg z5, if_neg z6, if_pos z7, if_pos (by rw [z7]; decide)]
      rw [if_neg z1, if_neg z2, if_neg z3, if_neg z4, if_neg z5, if_neg z6, if_neg z7, if_neg (by unfold isS; simp [y1, y2, y3, y4, y5, y6, y7, y8, z1, z2, z3, z4, z5, z6, z7])]
    have hall : (if B f = 58 then f_X12_nextSign_J32 n m2 (B f) else if B f = 61 then f_X12_nextSign_J32 n m2 (B f) else f_X12_nextSign_J75 n m2 (B f)) = if B (f + 1) = 61 ∧ (B f = 58 ∨ B f = 61) then some (0, mSI (mSI m2 11 (if B f = 58 then 256 else 257)) 10 (nI (f + 2))) else f_X12_nextSign_J75 n m2 (B f) := by
      unfold f_X12_nextSign_J32 f_X12_nextSign_J61
      rw [c10, hat, bs_some]
      dsimp only
      rw [bs_some, bs_some, mI_SIo (by decide), c10, nI_1, bs_some, bs_some, mI_SIo (by decide), c10, nI_1]
      by_cases y58 : B f = 58
      · by_cases y61 : B (f + 1) = 61
        · rw [if_pos y58, if_pos y61, if_pos y58, if_pos ⟨y61, Or.inl y58⟩, if_pos y58]
        · rw [if_pos y58, if_neg y61, if_neg (fun z => y61 z.1)]
      · by_cases y6 : B f = 61
        · by_cases y61 : B (f + 1) = 61
          · rw [if_neg y58, if_pos y6, if_pos y61, if_neg y58, if_pos ⟨y61, Or.inr y6⟩, if_neg y58]
          · rw [if_neg y58, if_pos y6, if_neg y61, if_neg (fun z => y61 z.1)]
        · rw [if_neg y58, if_neg y6, if_neg (fun z => z.2.elim y58 y6)]
    rw [hall, h75]
    by_cases hd : B (f + 1) = 61 ∧ (B f = 58 ∨ B f = 61)
    · rw [if_pos hd] at t4 t6 ⊢
      rw [bs_some]
      by_cases y58 : B f = 58
      · rw [if_pos y58] at t6 ⊢
        subst t6
        refine ⟨_, rfl, md_fr_SI (md_fr_SI fr2 (by decide) _) (by decide) _, fun z => absurd z (by decide), fun _ => ⟨?_, ?_, MW.mk (by decide) ?_ (fun _ => ?_) ?_ ?_ (fun z => absurd z (by decide)) (fun z => absurd z (by decide)) (fun z => absurd z (by decide))⟩⟩
        · rw [mI_SIo (by decide), mI_SIo (by decide)]; exact c6
        · rw [mI_SIo (by decide), mI_SIo (by decide)]; exact c7
        · rw [mI_SIo (by decide), mI_SIo (by decide), c8]; rfl
        · rw [mI_SIo (by decide), mI_SIe]; rfl
        · rw [mI_SIo (by decide), mI_SIo (by decide)]; exact c9
        · rw [mI_SIe, t4]
      · rw [if_neg y58] at t6 ⊢
        subst t6
        refine ⟨_, rfl, md_fr_SI (md_fr_SI fr2 (by decide) _) (by decide) _, fun z => absurd z (by decide), fun _ => ⟨?_, ?_, MW.mk (by decide) ?_ (fun _ => ?_) ?_ ?_ (fun z => absurd z (by decide)) (fun z => absurd z (by decide)) (fun z => absurd z (by decide))⟩⟩
        · rw [mI_SIo (by decide), mI_SIo (by decide)]; exact c6
        · rw [mI_SIo (by decide), mI_SIo (by decide)]; exact c7
        · rw [mI_SIo (by decide), mI_SIo (by decide), c8]; rfl
        · rw [mI_SIo (by decide), mI_SIe]; rfl
        · rw [mI_SIo (by decide), mI_SIo (by decide)]; exact c9
        · rw [mI_SIe, t4]
    · rw [if_neg hd] at t4 t6 ⊢
      by_cases hS : isS (B f)
      · rw [if_pos hS] at t6 ⊢
        rw [bs_some]
        have hSd : isS k := by rw [t6]; exact hS
        have hk5 : k ∈ vks ∧ mWd k = 5 ∧ mVl k = k ∧ k ≠ 1 ∧ k ≠ 2 ∧ k ≠ 3 ∧ k ≠ 4 := by
          rcases hSd with q | q | q | q | q | q | q | q | q | q | q | q | q | q | q <;> rw [q] <;> decide
        obtain ⟨k1, k2, k3, k4, k5, k6, k7⟩ := hk5
        exact ⟨_, rfl, fr2, fun z => absurd z k4, fun _ => ⟨c6, c7, MW.mk k1 (by rw [c8, k2]) (fun _ => by rw [c11, k3, t6]) c9 (by rw [c10, t4]) (fun z => absurd z k5) (fun z => absurd z k6) (fun z => absurd z k7)⟩⟩
      · rw [if_neg hS] at t6 ⊢
        rw [bs_some]
        refine ⟨_, rfl, md_fr_SI (md_fr_SI (md_fr_SI fr2 (by decide) _) (by decide) _) (by decide) _, fun _ => ⟨?_, ?_, ?_⟩, fun z => absurd t6 z⟩
        · rw [mI_SIo (by decide), mI_SIo (by decide), mI_SIe]
        · rw [mI_SIo (by decide), mI_SIe]
        · rw [mI_SIe]
