theorem i32_64 (k : Int32) : k.toInt64.toInt32 = k := by simp
/-- one word -/
theorem c_findWord {n : Nat} {C : Nat × Nat} {s : cd_S} {b : cd_B} {B : Nat → Int32} {N p ms : Nat} (hC : BC C) (hn : 5000 ≤ n) (hT : TB B N) (h : CT s B N) (hK : KWs s) (hB : Bd C s b) (hp : cI s 326 0 = nI p) (hpN : p ≤ N) (hms : cI s 325 0 = nI ms) (hm5 : ms ≤ 5) (hz : rsz s 0 + 3 ≤ rcap 0) (hz1 : rsz s 1 + 2 + (N - p) < rcap 1) :
    ∃ k f q x PS s' b', f_X10_findWord n s b = some (if k = 0 ∨ k = 1 then 0 else 1, s', b') ∧ Tok B N ms p (rsz s 1) k f q x PS ∧ cd_fr [326] [0, 1] s s' ∧ rL s' 0 = rL s 0 ++ [k.toInt64, (nI f).toInt64, x] ∧ rL s' 1 = rL s 1 ++ PS ∧ cI s' 326 0 = nI q ∧ Bd C s' b' ∧ b'.1 ≤ b.1 ∧ b'.2 ≤ b.2 := by
  have hN := hT.1
  obtain ⟨hs1, hs2⟩ := skp_b B (N - p) false p
  obtain ⟨f, hfe⟩ : ∃ f, f = skp B (N - p) false p := ⟨_, rfl⟩
  have hCT : CT (cSI s 326 0 (nI f)) B N := h.pl _
  have hBd : Bd C (cSI s 326 0 (nI f)) b := hB.SI (by decide) _ _
  have hKs : KWs (cSI s 326 0 (nI f)) := fun i hi => hK i hi
  have hpl : cI (cSI s 326 0 (nI f)) 326 0 = nI f := cI_SIe
  have hmsf : cI (cSI s 326 0 (nI f)) 325 0 = nI ms := by rw [cI_SIo (by decide)]; exact hms
  have hz0f : rsz (cSI s 326 0 (nI f)) 0 + 3 ≤ rcap 0 := hz
  have hr0 : rL (cSI s 326 0 (nI f)) 0 = rL s 0 := rL_SI (by decide)
  have hr1 : rL (cSI s 326 0 (nI f)) 1 = rL s 1 := rL_SI (by decide)
  have fr1 : cd_fr [326] [0, 1] s (cSI s 326 0 (nI f)) := cd_fr_SI (cd_fr_refl _ _ _) (by decide) (by decide) _ _
  have hJ : ∀ (s' : cd_S) (b' : cd_B) (k : Int32) (f1 x : Int64), Bd C s' b' → rL s' 0 = rL s 0 ++ [k.toInt64, f1, x] → f_X10_findWord_J79 n s' b' = some (if k = 0 ∨ k = 1 then 0 else 1, s', b') := by
    intro s' b' k f1 x hB' hL
    have hro := hB'.1 0 (by decide)
    have hlen : rsz s' 0 = rsz s 0 + 3 := by rw [← rL_len, hL, List.length_append, rL_len]; rfl
    have hget : (rL s' 0).getD (rsz s 0) 0 = k.toInt64 := by
      rw [hL, ← rL_len, List.getD_eq_getElem?_getD, List.getElem?_append_right (Nat.le_refl _), Nat.sub_self]; rfl
    unfold f_X10_findWord_J79
    rw [hro.1, hlen, show (3 : Int32) = nI 3 from rfl, nI_sub (by omega), Nat.add_sub_cancel, c_atL hro (by have := hro.szlt; omega), bs_some, hget, i32_64]
    dsimp only
    by_cases q0 : k = 0
    · rw [if_pos q0, if_pos (Or.inl q0)]
    · rw [if_neg q0]
      by_cases q1 : k = 1
      · rw [if_pos q1, if_pos (Or.inr q1)]
      · rw [if_neg q1, if_neg (fun q => q.elim q0 q1)]
  have hgo : ∀ R, (if B f = -1 then (Option.bind (f_X10_addWord n (cSI s 326 0 (nI f)) b (0 : Int32) (nI f) (0 : Int64)) fun p14 => cd_ck (fun (q : (Int32 × cd_S × cd_B)) => q.2.2) (p14.2.2) <| f_X10_findWord_J79 n p14.2.1 (p14.2.2)) else (if isL (B f) then (Option.bind (f_X10_findName n (cSI s 326 0 (nI f)) b) fun p12 => cd_ck (fun (q : (Int32 × cd_S × cd_B)) => q.2.2) (p12.2.2) <| f_X10_findWord_J79 n p12.2.1 (p12.2.2)) else (if isD (B f) then (Option.bind (f_X10_findNumber n (cSI s 326 0 (nI f)) b) fun p10 => cd_ck (fun (q : (Int32 × cd_S × cd_B)) => q.2.2) (p10.2.2) <| f_X10_findWord_J79 n p10.2.1 (p10.2.2)) else (if B f = 47 then (Option.bind (f_X10_findPattern n (cSI s 326 0 (nI f)) b) fun p8 => cd_ck (fun (q : (Int32 × cd_S × cd_B)) => q.2.2) (p8.2.2) <| f_X10_findWord_J79 n p8.2.1 (p8.2.2)) else (Option.bind (f_X10_findSign n (cSI s 326 0 (nI f)) b (B f)) fun p6 => cd_ck (fun (q : (Int32 × cd_S × cd_B)) => q.2.2) (p6.2.2) <| f_X10_findWord_J79 n p6.2.1 (p6.2.2)))))) = some R → R.2.2.1 ≤ b.1 → R.2.2.2 ≤ b.2 → f_X10_findWord n s b = some R := by
    intro R hR q1 q2
    unfold f_X10_findWord
    refine c_ck ?_ q1 q2
    rw [c_skip hT hn hpN h hp, ← hfe, bs_some]
    dsimp only
    rw [cI_SIe, c_byteAt hT hCT (by omega), bs_some]
    dsimp only
    rw [← hR]
    by_cases qm : B f = -1
    · rw [if_pos qm, if_pos qm]
    · rw [if_neg qm, if_neg qm, c_isLetter, bs_some]
      dsimp only
      by_cases ql : isL (B f)
      · rw [if_neg (fun e => b10.mp e ql), if_pos ql]
      · rw [if_pos (b10.mpr ql), if_neg ql, c_isDigit, bs_some]
        dsimp only
        by_cases qd : isD (B f)
        · rw [if_neg (fun e => b10.mp e qd), if_pos qd]
        · rw [if_pos (b10.mpr qd), if_neg qd]
  have hend : ∀ (G : Option (Int32 × cd_S × cd_B)) (s' : cd_S) (b' : cd_B) (k : Int32) (f1 x : Int64), G = some (0, s', b') → Bd C s' b' → rL s' 0 = rL s 0 ++ [k.toInt64, f1, x] → (Option.bind G fun p14 => cd_ck (fun (q : (Int32 × cd_S × cd_B)) => q.2.2) (p14.2.2) <| f_X10_findWord_J79 n p14.2.1 (p14.2.2)) = some (if k = 0 ∨ k = 1 then 0 else 1, s', b') := by
    intro G s' b' k f1 x hG hB' hL
    rw [hG, bs_some]
    exact c_ck (hJ s' b' k f1 x hB' hL) (Nat.le_refl _) (Nat.le_refl _)
  by_cases qm : B f = -1
  · have hfN : f = N := by have := hT.m1.mp qm; omega
    obtain ⟨b', e1, B1, l1, l2⟩ := c_addWord (n := n) (k := 0) (f := nI f) (x := 0) hC hBd hz0f
    have hL := aw_L (k := 0) (f := nI f) (x := 0) (hBd.1 0 (by decide)) hz0f
    rw [hr0] at hL
    refine ⟨0, f, f, 0, [], _, b', hgo _ ?_ l1 l2, ⟨hfe, by omega, Or.inl ⟨hfN, rfl, rfl, rfl, rfl⟩⟩, aw_fr fr1 (by decide), hL, by rw [aw_Lo (by decide), hr1, List.append_nil], ?_, B1, l1, l2⟩
    · rw [if_pos qm]
      exact hend _ _ _ 0 _ _ e1 B1 hL
    · unfold aw; rw [rAdd_Io (by decide), rAdd_Io (by decide), rAdd_Io (by decide)]; exact hpl
  · have hfN : f < N := by
      by_cases q : f < N
      · exact q
      · exact absurd (hT.m1.mpr (by omega)) qm
    by_cases ql : isL (B f)
    · obtain ⟨b', e1, B1, l1, l2⟩ := c_findName (n := n) hC hn hT hCT hKs hBd hpl (by omega) hz0f
      rw [cSI_SI] at e1 B1
      have hqb := alE_b B (N - f) f
      have hL := aw_L (s := cSI s 326 0 (nI (alE B (N - f) f))) (k := if alE B (N - f) f - f ≤ 8 then kwk (c64 B (alE B (N - f) f - f) f 0) else 1) (f := nI f) (x := c64 B (alE B (N - f) f - f) f 0) ((hB.SI (by decide) _ _).1 0 (by decide)) hz
      rw [rL_SI (by decide)] at hL
      refine ⟨_, f, alE B (N - f) f, c64 B (alE B (N - f) f - f) f 0, [], _, b', hgo _ ?_ l1 l2, ⟨hfe, by omega, Or.inr (Or.inl ⟨hfN, ql, rfl, rfl, rfl, rfl⟩)⟩, aw_fr (cd_fr_SI (cd_fr_refl _ _ _) (by decide) (by decide) _ _) (by decide), hL, by rw [aw_Lo (by decide), rL_SI (by decide), List.append_nil], ?_, B1, l1, l2⟩
      · rw [if_neg qm, if_pos ql]
        exact hend _ _ _ _ _ _ e1 B1 hL
      · unfold aw; rw [rAdd_Io (by decide), rAdd_Io (by decide), rAdd_Io (by decide), cI_SIe]
    · by_cases qd : isD (B f)
      · obtain ⟨b', e1, B1, l1, l2⟩ := c_findNumber (n := n) hC hn hT hCT hBd hpl (by omega) hz0f
        rw [cSI_SI] at e1 B1
        have hqb := dgE_b B (N - f) f
        have hL := aw_L (s := cSI s 326 0 (nI (dgE B (N - f) f))) (k := if nv B (N - f) f 0 ≤ 2147483647 then 3 else 1) (f := nI f) (x := lN (nv B (N - f) f 0)) ((hB.SI (by decide) _ _).1 0 (by decide)) hz
        rw [rL_SI (by decide)] at hL
        refine ⟨_, f, dgE B (N - f) f, lN (nv B (N - f) f 0), [], _, b', hgo _ ?_ l1 l2, ⟨hfe, by omega, Or.inr (Or.inr (Or.inl ⟨hfN, qd, rfl, rfl, rfl, rfl⟩))⟩, aw_fr (cd_fr_SI (cd_fr_refl _ _ _) (by decide) (by decide) _ _) (by decide), hL, by rw [aw_Lo (by decide), rL_SI (by decide), List.append_nil], ?_, B1, l1, l2⟩
        · rw [if_neg qm, if_neg ql, if_pos qd]
          exact hend _ _ _ _ _ _ e1 B1 hL
        · unfold aw; rw [rAdd_Io (by decide), rAdd_Io (by decide), rAdd_Io (by decide), cI_SIe]
      · by_cases q47 : B f = 47
        · obtain ⟨s', b', e1, f1, r0, r1, p1, B1, l1, l2⟩ := c_findPattern (n := n) hC hn hT hCT hBd hpl hfN hmsf hm5 hz0f (show rsz s 1 + 2 + (N - f) < rcap 1 by omega)
          rw [hr0] at r0
          rw [hr1] at r1
          obtain ⟨a1, a2, a3⟩ := ptE_b B N (N - f) f (by omega) (by omega) hT
          refine ⟨_, f, _, _, _, s', b', hgo _ ?_ l1 l2, ⟨hfe, ?_, Or.inr (Or.inr (Or.inr (Or.inl ⟨hfN, q47, rfl, rfl, rfl, rfl⟩)))⟩, cd_fr_tr fr1 f1 (fun _ z => ⟨z, z⟩) (fun _ z => ⟨z, z⟩), r0, r1, p1, B1, l1, l2⟩
          · rw [if_neg qm, if_neg ql, if_neg qd, if_pos q47]
            exact hend _ _ _ _ _ _ e1 B1 r0
          · split
            · exact a2
            · rename_i ht
              have : ptE B N (N - f) f + 1 < N := by
                refine hT.neg ?_
                unfold ptT at ht
                repeat' split at ht
                · rename_i q; rw [q]; decide
                · rename_i q; rw [q]; decide
                · exact absurd rfl ht
                · exact absurd rfl ht
              omega
        · obtain ⟨b', e1, B1, l1, l2⟩ := c_findSign (n := n) hC hT hCT hBd hpl hfN hz0f
          rw [cSI_SI] at e1 B1
          have hL := aw_L (s := cSI s 326 0 (nI (if B (f + 1) = 61 ∧ (B f = 58 ∨ B f = 61) then f + 2 else f + 1))) (k := if B (f + 1) = 61 ∧ (B f = 58 ∨ B f = 61) then (if B f = 58 then 200 else 201) else if isS (B f) then B f else 1) (f := nI f) (x := 0) ((hB.SI (by decide) _ _).1 0 (by decide)) hz
          rw [rL_SI (by decide)] at hL
          refine ⟨_, f, _, 0, [], _, b', hgo _ ?_ l1 l2, ⟨hfe, ?_, Or.inr (Or.inr (Or.inr (Or.inr ⟨hfN, fun q => q.elim ql qd, q47, rfl, rfl, rfl, rfl⟩)))⟩, aw_fr (cd_fr_SI (cd_fr_refl _ _ _) (by decide) (by decide) _ _) (by decide), hL, by rw [aw_Lo (by decide), rL_SI (by decide), List.append_nil], ?_, B1, l1, l2⟩
          · rw [if_neg qm, if_neg ql, if_neg qd, if_neg q47]
            exact hend _ _ _ _ _ _ e1 B1 hL
          · split
            · rename_i q
              have := hT.neg (k := f + 1) (by rw [q.1]; decide)
              omega
            · omega
          · unfold aw; rw [rAdd_Io (by decide), rAdd_Io (by decide), rAdd_Io (by decide), cI_SIe]
