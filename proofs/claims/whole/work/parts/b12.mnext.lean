/-! the model's words -/
theorem MT.of {s t : md_S} {B : Nat → Int32} {N : Nat} (h : MT s B N) {L : List Nat} (hf : md_fr L s t) (h3 : 3 ∉ L) (h4 : 4 ∉ L) : MT t B N :=
  ⟨(md_frI hf h4).trans h.1, fun k hk => by rw [md_frA hf h3]; exact h.2 k hk⟩
theorem MT.to {s : md_S} {B : Nat → Int32} {N : Nat} (h : MT s B N) (v : Int32) : MT (mSI s 10 v) B N := h
def cmE (B : Nat → Int32) : Nat → Nat → Nat
  | 0, p => p
  | k + 1, p => if B p = 10 then p else cmE B k (p + 1)
theorem cmE_b (B : Nat → Int32) : ∀ (k p : Nat), p ≤ cmE B k p ∧ cmE B k p ≤ p + k
  | 0, p => ⟨Nat.le_refl _, Nat.le_refl _⟩
  | k + 1, p => by
    have h1 := cmE_b B k (p + 1)
    unfold cmE
    split <;> omega
theorem skp_cm (B : Nat → Int32) (N : Nat) : ∀ (k p : Nat), p + k = N → skp B k true p = skp B (N - cmE B k p) false (cmE B k p)
  | 0, p, h => by
    show p = skp B (N - p) false p
    rw [show N - p = 0 by omega]; rfl
  | k + 1, p, h => by
    by_cases q : B p = 10
    · have e1 : cmE B (k + 1) p = p := by unfold cmE; rw [if_pos q]
      rw [e1, show N - p = k + 1 by omega]
      show (if B p = 35 ∨ (true = true ∧ ¬ B p = 10) then _ else _) = (if B p = 35 ∨ (false = true ∧ ¬ B p = 10) then _ else _)
      have h35 : ¬ B p = 35 := by rw [q]; decide
      rw [if_neg (show ¬ (B p = 35 ∨ (true = true ∧ ¬ B p = 10)) from fun z => z.elim h35 (fun y => y.2 q)), if_neg (show ¬ (B p = 35 ∨ (false = true ∧ ¬ B p = 10)) from fun z => z.elim h35 (fun y => y.2 q))]
    · have e1 : cmE B (k + 1) p = cmE B k (p + 1) := by
        show (if B p = 10 then _ else _) = _
        rw [if_neg q]
      rw [e1, ← skp_cm B N k (p + 1) (by omega)]
      show (if B p = 35 ∨ (true = true ∧ ¬ B p = 10) then _ else _) = _
      rw [if_pos (Or.inr ⟨rfl, q⟩)]
theorem m_cmL {n : Nat} {B : Nat → Int32} {N : Nat} (hT : TB B N) : ∀ (k j p : Nat) (s : md_S), p + k = N → k < j → MT s B N → mI s 10 = nI p → f_X12_next_L59 n j s = some (mSI s 10 (nI (cmE B k p))) := by
  have hN := hT.1
  intro k
  induction k with
  | zero =>
    intro j p s hp hj h hto
    obtain ⟨j, rfl⟩ : ∃ i, j = i + 1 := ⟨j - 1, by omega⟩
    rw [u_X12_next_L59, h.1, hto, if_pos ((nI_leI (by omega) (by omega)).mpr (by omega)), show cmE B 0 p = p from rfl, mSI_self hto]
  | succ k ih =>
    intro j p s hp hj h hto
    obtain ⟨j, rfl⟩ : ∃ i, j = i + 1 := ⟨j - 1, by omega⟩
    rw [u_X12_next_L59, h.1, hto, if_neg (fun z => absurd ((nI_leI (by omega) (by omega)).mp z) (by omega)), m_at hT h (by omega), bs_some]
    dsimp only
    by_cases q : B p = 10
    · rw [if_pos q, show cmE B (k + 1) p = p by unfold cmE; rw [if_pos q], mSI_self hto]
    · rw [if_neg q, bs_some, hto, nI_1, ih j (p + 1) (mSI s 10 (nI (p + 1))) (by omega) (by omega) (h.to _) mI_SIe, mSI_SI]
      rw [show cmE B (k + 1) p = cmE B k (p + 1) by show (if B p = 10 then _ else _) = _; rw [if_neg q]]
theorem m_skL {n : Nat} {B : Nat → Int32} {N : Nat} (hT : TB B N) (hn : 5000 ≤ n) : ∀ (k j p : Nat) (s : md_S), p + k = N → k + 1 < j → MT s B N → mI s 10 = nI p → f_X12_next_L10 n j s 1 = some (mSI s 10 (nI (skp B k false p)), 0) := by
  have hN := hT.1
  intro k
  induction k using Nat.strongRecOn with
  | ind k ih =>
  intro j p s hp hj h hto
  obtain ⟨j, rfl⟩ : ∃ i, j = i + 2 := ⟨j - 2, by omega⟩
  have hend : f_X12_next_L10 n (j + 1) s 0 = some (s, 0) := by rw [u_X12_next_L10, if_pos rfl]
  have hat : f_X12_at n s (nI p) = some (B p, s) := m_at hT h (by omega)
  have h45 : ∀ t0 : Int32, f_X12_next_J45 n (f_X12_next_L10 n (j + 1)) s t0 = if B p = 35 then (Option.bind (f_X12_next_L59 n n s) fun q6 => f_X12_next_L10 n (j + 1) q6 1) else (if t0 = 0 then f_X12_next_L10 n (j + 1) s t0 else f_X12_next_L10 n (j + 1) (mSI s 10 (nI (p + 1))) t0) := fun t0 => by
    unfold f_X12_next_J45
    rw [hto, hat, bs_some]
    dsimp only
    rw [bs_some, hto, nI_1]
  rw [u_X12_next_L10, if_neg (by decide), hto, hat, bs_some]
  dsimp only
  rw [hto, hat, bs_some]
  dsimp only
  unfold f_X12_next_J40
  rw [h45, h45]
  cases k with
  | zero =>
    have hB : B p = -1 := hT.2.2 p (by omega)
    rw [if_neg (by rw [hB]; decide), if_neg (by rw [hB]; decide), if_neg (by rw [hB]; decide), if_pos rfl, hend, show skp B 0 false p = p from rfl, mSI_self hto]
  | succ k =>
    have hsk : skp B (k + 1) false p = if B p = 35 ∨ (false = true ∧ ¬ B p = 10) then skp B k true (p + 1) else if B p = 32 ∨ B p = 10 then skp B k false (p + 1) else p := rfl
    have hblank : ¬ B p = 35 → (B p = 32 ∨ B p = 10) → f_X12_next_L10 n (j + 1) (mSI s 10 (nI (p + 1))) 1 = some (mSI s 10 (nI (skp B (k + 1) false p)), 0) := fun q1 q2 => by
      rw [ih k (by omega) (j + 1) (p + 1) (mSI s 10 (nI (p + 1))) (by omega) (by omega) (h.to _) mI_SIe, mSI_SI, hsk, if_neg (fun z => z.elim q1 (fun y => absurd y.1 (by decide))), if_pos q2]
    by_cases h32 : B p = 32
    · have h35 : ¬ B p = 35 := by rw [h32]; decide
      rw [if_pos h32, if_neg h35, if_neg (by decide), hblank h35 (Or.inl h32)]
    · rw [if_neg h32]
      by_cases h10 : B p = 10
      · have h35 : ¬ B p = 35 := by rw [h10]; decide
        rw [if_pos h10, if_neg h35, if_neg (by decide), hblank h35 (Or.inr h10)]
      · rw [if_neg h10]
        by_cases h35 : B p = 35
        · have hcb := cmE_b B k (p + 1)
          have hcm : cmE B (k + 1) p = cmE B k (p + 1) := by show (if B p = 10 then _ else _) = _; rw [if_neg h10]
          rw [if_pos h35, m_cmL hT (k + 1) n p s hp (by omega) h hto, bs_some, hcm]
          rw [ih (N - cmE B k (p + 1)) (by omega) (j + 1) (cmE B k (p + 1)) (mSI s 10 (nI (cmE B k (p + 1)))) (by omega) (by omega) (h.to _) mI_SIe, mSI_SI, hsk, if_pos (Or.inl h35), skp_cm B N k (p + 1) (by omega)]
        · rw [if_neg h35, if_pos rfl, hend, hsk, if_neg (fun z => z.elim h35 (fun y => absurd y.1 (by decide))), if_neg (fun z => z.elim h32 h10), mSI_self hto]
theorem m_fails {n : Nat} {s : md_S} {why : Int32} (h : mI s 6 = 0) : f_X12_fails n s why = some (0, mSI (mSI (mSI s 6 why) 7 (mI s 9)) 8 0) := by
  unfold f_X12_fails f_X12_failsAt f_X12_failsAt_J17
  rw [if_pos h, bs_some, bs_some, bs_some, bs_some]
theorem m_nameL {n : Nat} {B : Nat → Int32} {N f : Nat} (hT : TB B N) : ∀ (k j p : Nat) (s : md_S), p + k = N → k < j → f ≤ p → MT s B N → mI s 10 = nI p → mI s 9 = nI f → ∃ nm, f_X12_nextName_L5 n j s = some (mSI (mSJ s 12 nm) 10 (nI (alE B k p))) ∧ (alE B k p - f ≤ 8 → nm = c37 B (alE B k p - p) p (mJ s 12)) := by
  have hN := hT.1
  intro k
  have hstop : ∀ (j p : Nat) (s : md_S), p < 2 ^ 31 → MT s B N → mI s 10 = nI p → ¬ isA (B p) → f_X12_nextName_L5 n (j + 1) s = some s := by
    intro j p s hp h hto q
    rw [u_X12_nextName_L5, hto, m_at hT h hp, bs_some]
    dsimp only
    rw [m_isLetter, bs_some]
    dsimp only
    rw [if_pos (b10.mpr (fun z => q (Or.inl z))), hto, m_at hT h hp, bs_some]
    dsimp only
    rw [m_isDigit, bs_some]
    dsimp only
    rw [if_pos (b10.mpr (fun z => q (Or.inr z)))]
  induction k with
  | zero =>
    intro j p s hp hj hf h hto hfr
    obtain ⟨j, rfl⟩ : ∃ i, j = i + 1 := ⟨j - 1, by omega⟩
    have hna : ¬ isA (B p) := fun q => by have := hT.al q; omega
    refine ⟨mJ s 12, ?_, fun _ => by rw [show alE B 0 p = p from rfl, Nat.sub_self]; rfl⟩
    rw [hstop j p s (by omega) h hto hna, show alE B 0 p = p from rfl, mSJ_self rfl, mSI_self hto]
  | succ k ih =>
    intro j p s hp hj hf h hto hfr
    obtain ⟨j, rfl⟩ : ∃ i, j = i + 1 := ⟨j - 1, by omega⟩
    by_cases q : isA (B p)
    · have hae : alE B (k + 1) p = alE B k (p + 1) := by show (if isA (B p) then _ else _) = _; rw [if_pos q]
      have hab := alE_b B k (p + 1)
      have hJ : f_X12_nextName_J33 n (f_X12_nextName_L5 n j) s = f_X12_nextName_L5 n j (mSI (mSJ s 12 (if p - f < 8 then s37 (mJ s 12) (B p) else mJ s 12)) 10 (nI (p + 1))) := by
        unfold f_X12_nextName_J33 f_X12_nextName_J76
        rw [hto, hfr, nI_sub hf]
        by_cases h8 : p - f < 8
        · rw [if_neg (show ¬ (8 : Int32) ≤ nI (p - f) from fun z => absurd ((nI_leI (a := 8) (by decide) (by omega)).mp z) (by omega)), m_at hT h (by omega), bs_some]
          dsimp only
          rw [m_digitOf q, bs_some]
          dsimp only
          rw [bs_some, bs_some, mI_SJ, hto, nI_1, if_pos h8]
          rfl
        · rw [if_pos (show (8 : Int32) ≤ nI (p - f) from (nI_leI (a := 8) (by decide) (by omega)).mpr (by omega)), bs_some, bs_some, mI_SJ, hto, nI_1, if_neg h8]
      obtain ⟨nm, e1, e2⟩ := ih j (p + 1) (mSI (mSJ s 12 (if p - f < 8 then s37 (mJ s 12) (B p) else mJ s 12)) 10 (nI (p + 1))) (by omega) (by omega) (by omega) h mI_SIe (by rw [mI_SIo (by decide), mI_SJ]; exact hfr)
      refine ⟨nm, ?_, ?_⟩
      · have hgo : f_X12_nextName_L5 n (j + 1) s = f_X12_nextName_J33 n (f_X12_nextName_L5 n j) s := by
          rw [u_X12_nextName_L5, hto, m_at hT h (by omega), bs_some]
          dsimp only
          rw [m_isLetter, bs_some]
          dsimp only
          by_cases ql : isL (B p)
          · rw [if_neg (fun e => b10.mp e ql)]
          · rw [if_pos (b10.mpr ql), hto, m_at hT h (by omega), bs_some]
            dsimp only
            rw [m_isDigit, bs_some]
            dsimp only
            rw [if_neg (fun e => b10.mp e (q.resolve_left ql))]
        rw [hgo, hJ, e1, hae, ← mSI_SJ, mSJ_SJ, mSI_SI]
      · intro h8
        rw [hae] at h8 ⊢
        rw [e2 h8, mJ_SI, mJ_SJe, if_pos (by omega), show alE B k (p + 1) - p = (alE B k (p + 1) - (p + 1)) + 1 by omega]
        rfl
    · refine ⟨mJ s 12, ?_, fun _ => ?_⟩
      · rw [hstop j p s (by omega) h hto q, show alE B (k + 1) p = p by unfold alE; rw [if_neg q], mSJ_self rfl, mSI_self hto]
      · rw [show alE B (k + 1) p = p by unfold alE; rw [if_neg q], Nat.sub_self]; rfl
theorem m_numL {n : Nat} {B : Nat → Int32} {N : Nat} (hT : TB B N) : ∀ (k j p : Nat) (s : md_S) (a : Nat), a < 2 ^ 40 → p + k = N → k < j → MT s B N → mI s 10 = nI p → f_X12_nextNumber_L2 n j s (lN a) = some (mSI s 10 (nI (dgE B k p)), lN (nv B k p a)) := by
  have hN := hT.1
  intro k
  have hstop : ∀ (j p : Nat) (s : md_S) (a : Int64), p < 2 ^ 31 → MT s B N → mI s 10 = nI p → ¬ isD (B p) → f_X12_nextNumber_L2 n (j + 1) s a = some (s, a) := by
    intro j p s a hp h hto q
    rw [u_X12_nextNumber_L2, hto, m_at hT h hp, bs_some]
    dsimp only
    rw [m_isDigit, bs_some]
    dsimp only
    rw [if_pos (b10.mpr q)]
  induction k with
  | zero =>
    intro j p s a ha hp hj h hto
    obtain ⟨j, rfl⟩ : ∃ i, j = i + 1 := ⟨j - 1, by omega⟩
    have hna : ¬ isD (B p) := fun q => by have := hT.al (Or.inr q); omega
    rw [hstop j p s _ (by omega) h hto hna, show dgE B 0 p = p from rfl, mSI_self hto]
    rfl
  | succ k ih =>
    intro j p s a ha hp hj h hto
    obtain ⟨j, rfl⟩ : ∃ i, j = i + 1 := ⟨j - 1, by omega⟩
    by_cases q : isD (B p)
    · have hB : B p = nI (B p).toInt.toNat := Int32.toInt_inj.mp (by rw [nI_toInt (by omega)]; omega)
      have hd : ∀ x : Nat, lN x + (B p).toInt64 - 48 = lN (x + ((B p).toInt - 48).toNat) := fun x => by
        rw [hB, nI_l (by omega), lN_add, show (48 : Int64) = lN 48 from rfl, lN_sub (by omega), nI_toInt (by omega)]
        congr 1; omega
      have hJ : ∀ x, x < 2 ^ 40 → f_X12_nextNumber_J47 n (f_X12_nextNumber_L2 n j) s (lN x) = some (mSI s 10 (nI (dgE B k (p + 1))), lN (nv B k (p + 1) x)) := fun x hx => by
        unfold f_X12_nextNumber_J47
        rw [bs_some, hto, nI_1, ih j (p + 1) (mSI s 10 (nI (p + 1))) x hx (by omega) (by omega) (h.to _) mI_SIe, mSI_SI]
      have h63 : (lg_cmp (lN a) 2147483647 ≤ 0) ↔ a ≤ 2147483647 := by
        rw [lg_cmp_le]; exact lN_le63 (b := 2147483647) (by omega) (by decide)
      rw [u_X12_nextNumber_L2, hto, m_at hT h (by omega), bs_some]
      dsimp only
      rw [m_isDigit, bs_some]
      dsimp only
      unfold dgE nv
      rw [if_neg (fun e => b10.mp e q), if_pos q, if_pos q]
      by_cases h2 : a ≤ 2147483647
      · rw [if_pos (h63.mpr h2), hto, m_at hT h (by omega), bs_some]
        dsimp only
        rw [show (10 : Int64) = lN 10 from rfl, lN_mul, hd, hJ _ (by obtain ⟨q1, q2⟩ := q; omega), if_pos h2, Nat.mul_comm]
      · rw [if_neg (fun z => h2 (h63.mp z)), hJ a ha, if_neg h2]
    · rw [hstop j p s _ (by omega) h hto q]
      unfold dgE nv
      rw [if_neg q, if_neg q, mSI_self hto]
