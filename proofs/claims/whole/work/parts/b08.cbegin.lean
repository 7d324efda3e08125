/-! signs, patterns, all words of a text -/
theorem sg_dec : ∀ k : Fin 127, ∃ r : Fin 16, cd_sg (((nI k.val).toUInt32 % 65536).toInt32) = some (if isS (nI k.val) then nI r.val else -1) := by decide +kernel
theorem c_sg {c : Int32} (h0 : 0 ≤ c.toInt) (h1 : c.toInt < 127) : ∃ r, cd_sg ((c.toUInt32 % 65536).toInt32) = some r ∧ (r < 0 ↔ ¬ isS c) := by
  have hc : c = nI c.toInt.toNat := Int32.toInt_inj.mp (by rw [nI_toInt (by omega)]; omega)
  obtain ⟨r, hr⟩ := sg_dec ⟨c.toInt.toNat, by omega⟩
  dsimp only at hr
  rw [← hc] at hr
  refine ⟨_, hr, ?_⟩
  by_cases q : isS c
  · rw [if_pos q]
    exact ⟨fun z => absurd z (nI_nn (by have := r.isLt; omega)), fun z => absurd q z⟩
  · rw [if_neg q]
    exact ⟨fun _ => q, fun _ => by decide⟩
theorem c_findSign {n : Nat} {C : Nat × Nat} {s : cd_S} {b : cd_B} {B : Nat → Int32} {N f : Nat} (hC : BC C) (hT : TB B N) (h : CT s B N) (hB : Bd C s b) (hp : cI s 326 0 = nI f) (hf : f < N) (hz : rsz s 0 + 3 ≤ rcap 0) :
    ∃ b', f_X10_findSign n s b (B f) = some (0, aw (cSI s 326 0 (nI (if B (f + 1) = 61 ∧ (B f = 58 ∨ B f = 61) then f + 2 else f + 1))) (if B (f + 1) = 61 ∧ (B f = 58 ∨ B f = 61) then (if B f = 58 then 200 else 201) else if isS (B f) then B f else 1) (nI f) 0, b') ∧ Bd C (aw (cSI s 326 0 (nI (if B (f + 1) = 61 ∧ (B f = 58 ∨ B f = 61) then f + 2 else f + 1))) (if B (f + 1) = 61 ∧ (B f = 58 ∨ B f = 61) then (if B f = 58 then 200 else 201) else if isS (B f) then B f else 1) (nI f) 0) b' ∧ b'.1 ≤ b.1 ∧ b'.2 ≤ b.2 := by
  have hN := hT.1
  obtain ⟨hb0, hb1⟩ := hT.2.1 f hf
  obtain ⟨b', e1, B1, l1, l2⟩ := c_addWord (n := n) (k := if B (f + 1) = 61 ∧ (B f = 58 ∨ B f = 61) then (if B f = 58 then 200 else 201) else if isS (B f) then B f else 1) (f := nI f) (x := 0) hC (hB.SI (f := 326) (by decide) 0 (nI (if B (f + 1) = 61 ∧ (B f = 58 ∨ B f = 61) then f + 2 else f + 1))) hz
  refine ⟨b', ?_, B1, l1, l2⟩
  have hJ88 : f_X10_findSign_J88 n (cSI s 326 0 (nI (if B (f + 1) = 61 ∧ (B f = 58 ∨ B f = 61) then f + 2 else f + 1))) b (nI f) (if B (f + 1) = 61 ∧ (B f = 58 ∨ B f = 61) then (if B f = 58 then 200 else 201) else if isS (B f) then B f else 1) = some (0, aw (cSI s 326 0 (nI (if B (f + 1) = 61 ∧ (B f = 58 ∨ B f = 61) then f + 2 else f + 1))) (if B (f + 1) = 61 ∧ (B f = 58 ∨ B f = 61) then (if B f = 58 then 200 else 201) else if isS (B f) then B f else 1) (nI f) 0, b') := by
    unfold f_X10_findSign_J88
    rw [e1, bs_some]
    exact c_ck rfl (Nat.le_refl _) (Nat.le_refl _)
  have hJ : ∀ t0 : Int32, t0 = (if isS (B f) then B f else 1) → f_X10_findSign_J26 n s b (B f) (nI f) t0 = f_X10_findSign_J88 n (cSI s 326 0 (nI (if B (f + 1) = 61 ∧ (B f = 58 ∨ B f = 61) then f + 2 else f + 1))) b (nI f) (if B (f + 1) = 61 ∧ (B f = 58 ∨ B f = 61) then (if B f = 58 then 200 else 201) else if isS (B f) then B f else 1) := by
    intro t0 ht0
    unfold f_X10_findSign_J26
    rw [bs_some, hp, nI_1, cI_SIe, c_byteAt hT (h.pl _) (by omega), bs_some]
    dsimp only
    by_cases h61 : B (f + 1) = 61
    · by_cases h58 : B f = 58
      · rw [if_pos h61, if_pos h58, if_pos ⟨h61, Or.inl h58⟩, if_pos ⟨h61, Or.inl h58⟩, if_pos h58]
        unfold f_X10_findSign_J62 f_X10_findSign_J77
        rw [if_pos h58, bs_some, cI_SIe, nI_1, cSI_SI]
      · by_cases hf61 : B f = 61
        · rw [if_pos h61, if_neg h58, if_pos hf61, if_pos ⟨h61, Or.inr hf61⟩, if_pos ⟨h61, Or.inr hf61⟩, if_neg h58]
          unfold f_X10_findSign_J62 f_X10_findSign_J77
          rw [if_neg h58, bs_some, cI_SIe, nI_1, cSI_SI]
        · have hn : ¬ (B (f + 1) = 61 ∧ (B f = 58 ∨ B f = 61)) := fun q => q.2.elim h58 hf61
          rw [if_pos h61, if_neg h58, if_neg hf61, if_neg hn, if_neg hn, ← ht0]
    · have hn : ¬ (B (f + 1) = 61 ∧ (B f = 58 ∨ B f = 61)) := fun q => h61 q.1
      rw [if_neg h61, if_neg hn, if_neg hn, ← ht0]
  unfold f_X10_findSign
  refine c_ck ?_ l1 l2
  rw [hp]
  unfold f_X10_findSign_J25
  by_cases h127 : (B f).toInt < 127
  · obtain ⟨r, hr1, hr2⟩ := c_sg hb0 h127
    rw [if_neg (by rw [Int32.le_iff_toInt_le, show (127 : Int32).toInt = 127 by decide]; omega), hr1, bs_some]
    by_cases hs : isS (B f)
    · rw [if_neg (fun z => hr2.mp z hs), hJ (B f) (by rw [if_pos hs]), hJ88]
    · rw [if_pos (hr2.mpr hs), hJ 1 (by rw [if_neg hs]), hJ88]
  · have hs : ¬ isS (B f) := fun q => by
      have hle : (B f).toInt ≤ 126 := by
        rcases q with q | q | q | q | q | q | q | q | q | q | q | q | q | q | q <;> rw [q] <;> decide
      omega
    rw [if_pos (by rw [Int32.le_iff_toInt_le, show (127 : Int32).toInt = 127 by decide]; omega), hJ 1 (by rw [if_neg hs]), hJ88]
/-- one step of a pattern -/
theorem c_findStep {n : Nat} {C : Nat × Nat} {s : cd_S} {b : cd_B} {B : Nat → Int32} {N p : Nat} (hC : BC C) (hn : 5000 ≤ n) (hT : TB B N) (h : CT s B N) (hB : Bd C s b) (hp : cI s 326 0 = nI p) (hf : p < N) (hz : rsz s 1 < rcap 1) :
    ∃ b', f_X10_findStep n s b = some (if alE B (N - (p + 1)) (p + 1) - (p + 1) ≤ 6 then 1 else 0, rAdd (cSI s 326 0 (nI (alE B (N - (p + 1)) (p + 1)))) 1 (c64 B (alE B (N - (p + 1)) (p + 1) - (p + 1)) (p + 1) 0), b') ∧ Bd C (rAdd (cSI s 326 0 (nI (alE B (N - (p + 1)) (p + 1)))) 1 (c64 B (alE B (N - (p + 1)) (p + 1) - (p + 1)) (p + 1) 0)) b' ∧ b'.1 ≤ b.1 ∧ b'.2 ≤ b.2 := by
  have hN := hT.1
  have hq := alE_b B (N - (p + 1)) (p + 1)
  obtain ⟨b', e1, B1, l1, l2⟩ := c_add (n := n) (r := 1) (v := c64 B (alE B (N - (p + 1)) (p + 1) - (p + 1)) (p + 1) 0) hC (hB.SI (f := 326) (by decide) 0 (nI (alE B (N - (p + 1)) (p + 1)))) (by decide) hz
  refine ⟨b', ?_, B1, l1, l2⟩
  unfold f_X10_findStep
  refine c_ck ?_ l1 l2
  rw [bs_some, hp, nI_1, c_stepL hT (nI (p + 1)) b (N - (p + 1)) n (p + 1) (cSI s 326 0 (nI (p + 1))) 0 (by omega) (by omega) (h.pl _) cI_SIe, bs_some, cSI_SI]
  dsimp only
  refine c_ck ?_ l1 l2
  rw [e1, bs_some]
  dsimp only
  refine c_ck ?_ (Nat.le_refl _) (Nat.le_refl _)
  rw [rAdd_Io (by decide), cI_SIe, nI_sub hq.1]
  by_cases h6 : alE B (N - (p + 1)) (p + 1) - (p + 1) ≤ 6
  · rw [if_neg (show ¬ (6 : Int32) < nI (alE B (N - (p + 1)) (p + 1) - (p + 1)) from fun z => absurd ((nI_ltI (a := 6) (by decide) (by omega)).mp z) (by omega)), if_pos h6]
  · rw [if_pos (show (6 : Int32) < nI (alE B (N - (p + 1)) (p + 1) - (p + 1)) from (nI_ltI (a := 6) (by decide) (by omega)).mpr (by omega)), if_neg h6]
theorem ptE_b (B : Nat → Int32) (N : Nat) : ∀ (k p : Nat), p ≤ N → N ≤ p + k → TB B N → p ≤ ptE B N k p ∧ ptE B N k p ≤ N ∧ p + (ptS B N k p).length ≤ ptE B N k p
  | 0, p, h, _, _ => ⟨Nat.le_refl _, h, Nat.le_refl _⟩
  | k + 1, p, h, h2, hT => by
    have h1 := alE_b B (N - (p + 1)) (p + 1)
    unfold ptE ptS
    split
    · rename_i q
      have h3 := hT.al q.2
      obtain ⟨a1, a2, a3⟩ := ptE_b B N k (alE B (N - (p + 1)) (p + 1)) (by omega) (by omega) hT
      refine ⟨by omega, a2, ?_⟩
      rw [List.length_cons]; omega
    · exact ⟨Nat.le_refl _, h, Nat.le_refl _⟩
/-- all steps of a pattern -/
theorem c_patL {n : Nat} {C : Nat × Nat} {B : Nat → Int32} {N : Nat} (hC : BC C) (hn : 5000 ≤ n) (hT : TB B N) (l1 l2 : Int32) : ∀ (k j p c : Nat) (g : Int32) (s : cd_S) (b : cd_B), (g = 0 ∨ g = 1) → p ≤ N → N ≤ p + k → k < j → c ≤ p → CT s B N → cI s 326 0 = nI p → Bd C s b → rsz s 1 + (N - p) < rcap 1 →
    ∃ s' b', f_X10_findPattern_L34 n l1 l2 j s b (nI c) g = some (s', b', nI (c + (ptS B N k p).length), if g = 1 ∧ ptG (ptS B N k p) then 1 else 0) ∧ cd_fr [326] [1] s s' ∧ rL s' 1 = rL s 1 ++ ptC B (ptS B N k p) ∧ cI s' 326 0 = nI (ptE B N k p) ∧ Bd C s' b' ∧ b'.1 ≤ b.1 ∧ b'.2 ≤ b.2 := by
  have hN := hT.1
  have hgg : ∀ g : Int32, (g = 0 ∨ g = 1) → (if g = 1 ∧ ptG [] then (1 : Int32) else 0) = g := fun g hg => by
    rcases hg with rfl | rfl
    · rw [if_neg (fun q => absurd q.1 (by decide))]
    · rw [if_pos ⟨rfl, fun e he => absurd he (by simp)⟩]
  have hend : ∀ (j p c : Nat) (g : Int32) (s : cd_S) (b : cd_B), p = N → CT s B N → cI s 326 0 = nI p → f_X10_findPattern_L34 n l1 l2 (j + 1) s b (nI c) g = some (s, b, nI c, g) := by
    intro j p c g s b hp h hpl
    rw [u_X10_findPattern_L34]
    by_cases q : (3000 : Int32) ≤ nI c
    · rw [if_pos q]
    · rw [if_neg q, hpl, c_byteAt hT h (by omega), bs_some]
      dsimp only
      have h47 : ¬ B p = 47 := fun z => by
        have := hT.neg (k := p) (by rw [z]; decide)
        omega
      rw [if_neg h47]
  intro k
  induction k with
  | zero =>
    intro j p c g s b hg hp hk hj hc h hpl hB hz
    obtain ⟨j, rfl⟩ : ∃ i, j = i + 1 := ⟨j - 1, by omega⟩
    refine ⟨s, b, ?_, cd_fr_refl _ _ _, by simp [ptS, ptC], hpl, hB, Nat.le_refl _, Nat.le_refl _⟩
    rw [hend j p c g s b (by omega) h hpl, show ptS B N 0 p = [] from rfl, hgg g hg]
    rfl
  | succ k ih =>
    intro j p c g s b hg hp hk hj hc h hpl hB hz
    obtain ⟨j, rfl⟩ : ∃ i, j = i + 1 := ⟨j - 1, by omega⟩
    by_cases hpN : p = N
    · have h47 : ¬ (B p = 47 ∧ isA (B (p + 1))) := fun q => by
        have := hT.neg (k := p) (by rw [q.1]; decide)
        omega
      have e1 : ptS B N (k + 1) p = [] := by unfold ptS; rw [if_neg h47]
      have e2 : ptE B N (k + 1) p = p := by unfold ptE; rw [if_neg h47]
      refine ⟨s, b, ?_, cd_fr_refl _ _ _, by rw [e1]; simp [ptC], by rw [e2]; exact hpl, hB, Nat.le_refl _, Nat.le_refl _⟩
      rw [hend j p c g s b hpN h hpl, e1, hgg g hg]
      rfl
    · have hc3 : ¬ (3000 : Int32) ≤ nI c := fun z => absurd ((nI_leI (a := 3000) (by decide) (by omega)).mp z) (by omega)
      rw [u_X10_findPattern_L34, if_neg hc3, hpl, c_byteAt hT h (by omega), bs_some]
      dsimp only
      rw [hpl, nI_1, c_stepCharAt hT h (by omega), bs_some]
      dsimp only
      by_cases h47 : B p = 47
      · rw [if_pos h47]
        by_cases hA : isA (B (p + 1))
        · have e1 : ptS B N (k + 1) p = (p + 1, alE B (N - (p + 1)) (p + 1)) :: ptS B N k (alE B (N - (p + 1)) (p + 1)) := by
            show (if B p = 47 ∧ isA (B (p + 1)) then _ else _) = _
            rw [if_pos ⟨h47, hA⟩]
          have e2 : ptE B N (k + 1) p = ptE B N k (alE B (N - (p + 1)) (p + 1)) := by
            show (if B p = 47 ∧ isA (B (p + 1)) then _ else _) = _
            rw [if_pos ⟨h47, hA⟩]
          have ha := alE_b B (N - (p + 1)) (p + 1)
          have hpN1 := hT.al hA
          have hag := alE_gt (B := B) (k := N - (p + 1)) (p := p + 1) (by omega) hA
          rw [if_neg (fun e => b10.mp e hA)]
          obtain ⟨b1, f1, B1, l1', l2'⟩ := c_findStep (n := n) (b := b) hC hn hT h hB hpl (by omega) (by omega)
          have hro := hB.1 1 (by decide)
          have z1 : rsz (rAdd (cSI s 326 0 (nI (alE B (N - (p + 1)) (p + 1)))) 1 (c64 B (alE B (N - (p + 1)) (p + 1) - (p + 1)) (p + 1) 0)) 1 = rsz s 1 + 1 := rAdd_sz hro.szlt
          have hg' : ((if g = 1 ∧ alE B (N - (p + 1)) (p + 1) - (p + 1) ≤ 6 then (1 : Int32) else 0) = 0 ∨ (if g = 1 ∧ alE B (N - (p + 1)) (p + 1) - (p + 1) ≤ 6 then (1 : Int32) else 0) = 1) := by split <;> simp
          obtain ⟨s', b', g1, g2, g3, g4, g5, g6, g7⟩ := ih j (alE B (N - (p + 1)) (p + 1)) (c + 1) (if g = 1 ∧ alE B (N - (p + 1)) (p + 1) - (p + 1) ≤ 6 then 1 else 0) (rAdd (cSI s 326 0 (nI (alE B (N - (p + 1)) (p + 1)))) 1 (c64 B (alE B (N - (p + 1)) (p + 1) - (p + 1)) (p + 1) 0)) b1 hg' (by omega) (by omega) (by omega) (by omega) (h.of (rAdd_Io (by decide)) (rAdd_P _ _ _ _ _) (fun _ => rAdd_A _ _ _ _ _ _)) (by rw [rAdd_Io (by decide), cI_SIe]) B1 (by rw [z1]; omega)
          refine ⟨s', b', ?_, ?_, ?_, by rw [e2]; exact g4, g5, by omega, by omega⟩
          · rw [f1, bs_some]
            dsimp only
            have hin : f_X10_findPattern_L34 n l1 l2 j (rAdd (cSI s 326 0 (nI (alE B (N - (p + 1)) (p + 1)))) 1 (c64 B (alE B (N - (p + 1)) (p + 1) - (p + 1)) (p + 1) 0)) b1 (nI (c + 1)) (if g = 1 ∧ alE B (N - (p + 1)) (p + 1) - (p + 1) ≤ 6 then 1 else 0) = some (s', b', nI (c + (ptS B N (k + 1) p).length), if g = 1 ∧ ptG (ptS B N (k + 1) p) then 1 else 0) := by
              rw [g1, e1]
              have hlen : c + 1 + (ptS B N k (alE B (N - (p + 1)) (p + 1))).length = c + ((p + 1, alE B (N - (p + 1)) (p + 1)) :: ptS B N k (alE B (N - (p + 1)) (p + 1))).length := by rw [List.length_cons]; omega
              rw [hlen]
              have hiff : ((if g = 1 ∧ alE B (N - (p + 1)) (p + 1) - (p + 1) ≤ 6 then (1 : Int32) else 0) = 1 ∧ ptG (ptS B N k (alE B (N - (p + 1)) (p + 1)))) ↔ (g = 1 ∧ ptG ((p + 1, alE B (N - (p + 1)) (p + 1)) :: ptS B N k (alE B (N - (p + 1)) (p + 1)))) := by
                constructor
                · intro ⟨q1, q2⟩
                  split at q1
                  · rename_i q
                    refine ⟨q.1, fun e he => ?_⟩
                    rcases List.mem_cons.mp he with q5 | q5
                    · rw [q5]; exact q.2
                    · exact q2 e q5
                  · exact absurd q1 (by decide)
                · intro ⟨q1, q2⟩
                  exact ⟨by rw [if_pos ⟨q1, q2 _ List.mem_cons_self⟩], fun e he => q2 e (List.mem_cons_of_mem _ he)⟩
              by_cases q : (g = 1 ∧ ptG ((p + 1, alE B (N - (p + 1)) (p + 1)) :: ptS B N k (alE B (N - (p + 1)) (p + 1))))
              · rw [if_pos (hiff.mpr q), if_pos q]
              · rw [if_neg (fun z => q (hiff.mp z)), if_neg q]
            refine c_ck ?_ g6 g7
            unfold f_X10_findPattern_J86 f_X10_findPattern_J87
            rw [nI_1]
            by_cases h6 : alE B (N - (p + 1)) (p + 1) - (p + 1) ≤ 6
            · rw [if_neg (fun e => b10.mp e h6)]
              rcases hg with rfl | rfl
              · rw [if_pos rfl, ← hin, if_neg (fun q => absurd q.1 (by decide))]
              · rw [if_neg (by decide), ← hin, if_pos ⟨rfl, h6⟩]
            · rw [if_pos (b10.mpr h6), ← hin, if_neg (fun q => h6 q.2)]
          · exact cd_fr_tr (cd_fr_add (cd_fr_SI (cd_fr_refl _ [326] [1]) (by decide) (by decide) _ _) (by decide) _) g2 (fun _ z => ⟨z, z⟩) (fun _ z => ⟨z, z⟩)
          · have hro2 : RowOk (cSI s 326 0 (nI (alE B (N - (p + 1)) (p + 1)))) 1 := hro.of (cI_SIo (by decide)) rfl
            rw [g3, rL_add hro2, rL_SI (by decide), e1, List.append_assoc]
            rfl
        · have h4 : ¬ (B p = 47 ∧ isA (B (p + 1))) := fun q => hA q.2
          have e1 : ptS B N (k + 1) p = [] := by unfold ptS; rw [if_neg h4]
          have e2 : ptE B N (k + 1) p = p := by unfold ptE; rw [if_neg h4]
          rw [if_pos (b10.mpr hA), e1, e2, hgg g hg]
          exact ⟨s, b, rfl, cd_fr_refl _ _ _, by simp [ptC], hpl, hB, Nat.le_refl _, Nat.le_refl _⟩
      · have h4 : ¬ (B p = 47 ∧ isA (B (p + 1))) := fun q => h47 q.1
        have e1 : ptS B N (k + 1) p = [] := by unfold ptS; rw [if_neg h4]
        have e2 : ptE B N (k + 1) p = p := by unfold ptE; rw [if_neg h4]
        rw [if_neg h47, e1, e2, hgg g hg]
        exact ⟨s, b, rfl, cd_fr_refl _ _ _, by simp [ptC], hpl, hB, Nat.le_refl _, Nat.le_refl _⟩
