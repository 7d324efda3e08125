/-! a pattern; a word; all words -/
theorem ls_set0 {A L : List Int64} {x v : Int64} : (A ++ x :: L).set A.length v = A ++ v :: L := by
  rw [List.set_append_right _ _ (Nat.le_refl _), Nat.sub_self]; rfl
theorem ls_set1 {A L : List Int64} {x y v : Int64} : (A ++ x :: y :: L).set (A.length + 1) v = A ++ x :: v :: L := by
  rw [List.set_append_right _ _ (by omega), Nat.add_sub_cancel_left]; rfl
theorem c_findPattern {n : Nat} {C : Nat × Nat} {s : cd_S} {b : cd_B} {B : Nat → Int32} {N f ms : Nat} (hC : BC C) (hn : 5000 ≤ n) (hT : TB B N) (h : CT s B N) (hB : Bd C s b) (hp : cI s 326 0 = nI f) (hf : f < N) (hms : cI s 325 0 = nI ms) (hm5 : ms ≤ 5) (hz : rsz s 0 + 3 ≤ rcap 0) (hz1 : rsz s 1 + 2 + (N - f) < rcap 1) :
    ∃ s' b', f_X10_findPattern n s b = some (0, s', b') ∧ cd_fr [326] [0, 1] s s' ∧
      rL s' 0 = rL s 0 ++ [(if ptG (ptS B N (N - f) f) ∧ (ptS B N (N - f) f).length ≤ ms ∧ ((ptS B N (N - f) f).length ≠ 0 ∨ ptT B (ptE B N (N - f) f) ≠ 0) then (4 : Int32) else 1).toInt64, (nI f).toInt64, lN (rsz s 1)] ∧
      rL s' 1 = rL s 1 ++ (lN (ptS B N (N - f) f).length :: lN (ptT B (ptE B N (N - f) f)) :: ptC B (ptS B N (N - f) f)) ∧
      cI s' 326 0 = nI (if ptT B (ptE B N (N - f) f) = 0 then ptE B N (N - f) f else ptE B N (N - f) f + 2) ∧ Bd C s' b' ∧ b'.1 ≤ b.1 ∧ b'.2 ≤ b.2 := by
  have hN := hT.1
  have hr1 := hB.1 1 (by decide)
  have hr1z := hr1.szlt
  obtain ⟨b1, e1, B1, l1, l1'⟩ := c_add (n := n) (r := 1) (v := 0) hC hB (by decide) (by omega)
  have z1 := rAdd_sz (s := s) (r := 1) (v := 0) hr1z
  obtain ⟨b2, e2, B2, l2, l2'⟩ := c_add (n := n) (r := 1) (v := 0) hC B1 (by decide) (by omega)
  have z2 := rAdd_sz (s := rAdd s 1 0) (r := 1) (v := 0) (B1.1 1 (by decide)).szlt
  have hCT2 : CT (rAdd (rAdd s 1 0) 1 0) B N := (h.of (rAdd_Io (by decide)) (rAdd_P _ _ _ _ _) (fun _ => rAdd_A _ _ _ _ _ _)).of (rAdd_Io (by decide)) (rAdd_P _ _ _ _ _) (fun _ => rAdd_A _ _ _ _ _ _)
  obtain ⟨s3, b3, e3, f3, r3, p3, B3, l3, l3'⟩ := c_patL (n := n) hC hn hT (nI f) (cI s 193 1) (N - f) n f 0 1 (rAdd (rAdd s 1 0) 1 0) b2 (Or.inr rfl) (by omega) (by omega) (by omega) (by omega) hCT2 (by rw [rAdd_Io (by decide), rAdd_Io (by decide)]; exact hp) B2 (by omega)
  have fr2 : cd_fr [326] [0, 1] s (rAdd (rAdd s 1 0) 1 0) := cd_fr_add (cd_fr_add (cd_fr_refl _ _ _) (by decide) _) (by decide) _
  have fr3 : cd_fr [326] [0, 1] s s3 := cd_fr_tr fr2 f3 (fun _ z => ⟨z, z⟩) (fun r z => ⟨z, fun q => z (by simp at q; simp [q])⟩)
  have hCT3 : CT s3 B N := h.of (cd_frI fr3 (by decide) (by decide) _) (cd_frP fr3 (by decide) (by decide) _) (fun k => cd_frA fr3 (by decide) (by decide) _ _)
  have hL2 : rL (rAdd (rAdd s 1 0) 1 0) 1 = rL s 1 ++ 0 :: 0 :: [] := by
    rw [rL_add (B1.1 1 (by decide)), rL_add hr1, List.append_assoc]; rfl
  have hL3 : rL s3 1 = rL s 1 ++ 0 :: 0 :: ptC B (ptS B N (N - f) f) := by rw [r3, hL2, List.append_assoc]; rfl
  obtain ⟨a1, a2, a3⟩ := ptE_b B N (N - f) f (by omega) (by omega) hT
  have hs3z : rsz s3 1 = rsz s 1 + (ptS B N (N - f) f).length + 2 := by
    rw [← rL_len, hL3, List.length_append, rL_len]; simp [ptC]; omega
  have hset : f_X6_set n s3 1 (nI (rsz s 1)) (lN (ptS B N (N - f) f).length) = some (0, cSF s3 1 (rsz s 1) (lN (ptS B N (N - f) f).length)) := c_set (B3.1 1 (by decide)) (by omega)
  have hL4 : rL (cSF s3 1 (rsz s 1) (lN (ptS B N (N - f) f).length)) 1 = rL s 1 ++ lN (ptS B N (N - f) f).length :: 0 :: ptC B (ptS B N (N - f) f) := by
    rw [rL_SF, hL3, ← rL_len, ls_set0]
  -- from here on with any state that has these rows
  have fin : ∀ (t : cd_S) (e tl : Nat), cd_fr [326] [0, 1] s t → Bd C t b3 → cI t 326 0 = nI e → rL t 0 = rL s 0 → rL t 1 = rL s 1 ++ lN (ptS B N (N - f) f).length :: lN tl :: ptC B (ptS B N (N - f) f) → ∀ g : Int32, (g = 0 ∨ g = 1) →
      ∃ s' b', f_X10_findPattern_J185 n t b3 (nI f) (nI (rsz s 1)) (nI (ptS B N (N - f) f).length) g = some (0, s', b') ∧ cd_fr [326] [0, 1] s s' ∧ rL s' 0 = rL s 0 ++ [(if g = 1 ∧ (ptS B N (N - f) f).length ≤ ms then (4 : Int32) else 1).toInt64, (nI f).toInt64, lN (rsz s 1)] ∧ rL s' 1 = rL s 1 ++ (lN (ptS B N (N - f) f).length :: lN tl :: ptC B (ptS B N (N - f) f)) ∧ cI s' 326 0 = nI e ∧ Bd C s' b' ∧ b'.1 ≤ b3.1 ∧ b'.2 ≤ b3.2 := by
    intro t e tl ft Bt hte ht0 ht1 g hg
    have hz0 : rsz t 0 + 3 ≤ rcap 0 := by rw [← rL_len, ht0, rL_len]; exact hz
    obtain ⟨b', w1, w2, w3, w4⟩ := c_addWord (n := n) (k := if g = 1 ∧ (ptS B N (N - f) f).length ≤ ms then 4 else 1) (f := nI f) (x := lN (rsz s 1)) hC Bt hz0
    refine ⟨_, b', ?_, aw_fr ft (by decide), by rw [aw_L (Bt.1 0 (by decide)) hz0, ht0], by rw [aw_Lo (by decide), ht1], ?_, w2, w3, w4⟩
    · have hJ : f_X10_findPattern_J204 n t b3 (nI f) (nI (rsz s 1)) (if g = 1 ∧ (ptS B N (N - f) f).length ≤ ms then 4 else 1) = some (0, aw t (if g = 1 ∧ (ptS B N (N - f) f).length ≤ ms then 4 else 1) (nI f) (lN (rsz s 1)), b') := by
        unfold f_X10_findPattern_J204
        rw [nI_l (by omega), w1, bs_some]
        exact c_ck rfl (Nat.le_refl _) (Nat.le_refl _)
      rw [← hJ]
      unfold f_X10_findPattern_J185 f_X10_findPattern_J203
      rw [cd_frI ft (by decide) (by decide), hms]
      rcases hg with rfl | rfl
      · have hk : (if (0 : Int32) = 1 ∧ (ptS B N (N - f) f).length ≤ ms then (4 : Int32) else 1) = 1 := if_neg (fun q => absurd q.1 (by decide))
        rw [if_pos (rfl : (0 : Int32) = 0), hk]
      · rw [if_neg (by decide : ¬ (1 : Int32) = 0)]
        by_cases q : (ptS B N (N - f) f).length ≤ ms
        · have hk : (if (1 : Int32) = 1 ∧ (ptS B N (N - f) f).length ≤ ms then (4 : Int32) else 1) = 4 := if_pos ⟨rfl, q⟩
          rw [if_neg (fun z => absurd ((nI_ltI (by omega) (by omega)).mp z) (by omega)), hk]
        · have hk : (if (1 : Int32) = 1 ∧ (ptS B N (N - f) f).length ≤ ms then (4 : Int32) else 1) = 1 := if_neg (fun z => q z.2)
          rw [if_pos ((nI_ltI (by omega) (by omega)).mpr (by omega)), hk]
    · unfold aw
      rw [rAdd_Io (by decide), rAdd_Io (by decide), rAdd_Io (by decide)]; exact hte
  have fr4 : cd_fr [326] [0, 1] s (cSF s3 1 (rsz s 1) (lN (ptS B N (N - f) f).length)) := cd_fr_SF fr3 (by decide) _ _
  have hrow0 : rL s3 0 = rL s 0 := by
    rw [rL_fr f3 (by decide), rL_addo (by decide), rL_addo (by decide)]
  have hrow04 : rL (cSF s3 1 (rsz s 1) (lN (ptS B N (N - f) f).length)) 0 = rL s 0 := by
    rw [← hrow0]
    exact rL_ext rfl (fun j _ => by rw [cF_SF, if_neg (by decide)])
  have hgood : ((if (1 : Int32) = 1 ∧ ptG (ptS B N (N - f) f) then (1 : Int32) else 0) = 0 ∨ (if (1 : Int32) = 1 ∧ ptG (ptS B N (N - f) f) then (1 : Int32) else 0) = 1) := by split <;> simp
  have hCT4 : CT (cSF s3 1 (rsz s 1) (lN (ptS B N (N - f) f).length)) B N := hCT3.of rfl rfl (fun _ => rfl)
  have hpre : ∀ R, (if B (ptE B N (N - f) f) = 47 then (if B (ptE B N (N - f) f + 1) = 42 then f_X10_findPattern_J141 n (cSF s3 1 (rsz s 1) (lN (ptS B N (N - f) f).length)) b3 (nI f) (nI (rsz s 1)) (nI (ptS B N (N - f) f).length) (if (1 : Int32) = 1 ∧ ptG (ptS B N (N - f) f) then 1 else 0) (B (ptE B N (N - f) f + 1)) else (if B (ptE B N (N - f) f + 1) = 45 then f_X10_findPattern_J141 n (cSF s3 1 (rsz s 1) (lN (ptS B N (N - f) f).length)) b3 (nI f) (nI (rsz s 1)) (nI (ptS B N (N - f) f).length) (if (1 : Int32) = 1 ∧ ptG (ptS B N (N - f) f) then 1 else 0) (B (ptE B N (N - f) f + 1)) else f_X10_findPattern_J178 n (cSF s3 1 (rsz s 1) (lN (ptS B N (N - f) f).length)) b3 (nI f) (nI (rsz s 1)) (nI (ptS B N (N - f) f).length) (if (1 : Int32) = 1 ∧ ptG (ptS B N (N - f) f) then 1 else 0))) else f_X10_findPattern_J178 n (cSF s3 1 (rsz s 1) (lN (ptS B N (N - f) f).length)) b3 (nI f) (nI (rsz s 1)) (nI (ptS B N (N - f) f).length) (if (1 : Int32) = 1 ∧ ptG (ptS B N (N - f) f) then 1 else 0)) = some R → R.2.2.1 ≤ b3.1 → R.2.2.2 ≤ b3.2 → f_X10_findPattern n s b = some R := by
    intro R hR q1 q2
    unfold f_X10_findPattern
    refine c_ck ?_ (show R.2.2.1 ≤ _ by omega) (show R.2.2.2 ≤ _ by omega)
    rw [e1, bs_some]
    dsimp only
    refine c_ck ?_ (show R.2.2.1 ≤ _ by omega) (show R.2.2.2 ≤ _ by omega)
    rw [e2, bs_some]
    dsimp only
    refine c_ck ?_ (show R.2.2.1 ≤ _ by omega) (show R.2.2.2 ≤ _ by omega)
    rw [hp, show f_X10_findPattern_L34 n (nI f) (cI s 193 1) n (rAdd (rAdd s 1 0) 1 0) b2 0 1 = _ from e3, bs_some]
    dsimp only
    refine c_ck ?_ q1 q2
    rw [hr1.1, Nat.zero_add, nI_l (by omega), hset, bs_some]
    dsimp only
    rw [cI_SF, p3, nI_1, c_byteAt hT hCT4 (by omega), bs_some]
    dsimp only
    rw [cI_SF, p3, c_byteAt hT hCT4 (by omega), bs_some]
    dsimp only
    exact hR
  have h145 : ∀ g : Int32, (g = 0 ∨ g = 1) → ∀ (c : Int32) (tl : Nat), tl = (if c = 42 then 1 else 2) → ∃ s' b', f_X10_findPattern_J141 n (cSF s3 1 (rsz s 1) (lN (ptS B N (N - f) f).length)) b3 (nI f) (nI (rsz s 1)) (nI (ptS B N (N - f) f).length) g c = some (0, s', b') ∧ cd_fr [326] [0, 1] s s' ∧ rL s' 0 = rL s 0 ++ [(if g = 1 ∧ (ptS B N (N - f) f).length ≤ ms then (4 : Int32) else 1).toInt64, (nI f).toInt64, lN (rsz s 1)] ∧ rL s' 1 = rL s 1 ++ (lN (ptS B N (N - f) f).length :: lN tl :: ptC B (ptS B N (N - f) f)) ∧ cI s' 326 0 = nI (ptE B N (N - f) f + 2) ∧ Bd C s' b' ∧ b'.1 ≤ b3.1 ∧ b'.2 ≤ b3.2 := by
    intro g hg c tl htl
    have hB4 : Bd C (cSF s3 1 (rsz s 1) (lN (ptS B N (N - f) f).length)) b3 := B3.SF _ _ _
    have hset2 : ∀ v, f_X6_set n (cSF s3 1 (rsz s 1) (lN (ptS B N (N - f) f).length)) 1 (nI (rsz s 1 + 1)) v = some (0, cSF (cSF s3 1 (rsz s 1) (lN (ptS B N (N - f) f).length)) 1 (rsz s 1 + 1) v) := fun v => c_set (hB4.1 1 (by decide)) (show rsz s 1 + 1 < rsz s3 1 by omega)
    have hJ : ∀ v, f_X10_findPattern_J162 n (cSF s3 1 (rsz s 1) (lN (ptS B N (N - f) f).length)) b3 (nI f) (nI (rsz s 1)) (nI (ptS B N (N - f) f).length) g v (nI (rsz s 1 + 1)) = f_X10_findPattern_J185 n (cSI (cSF (cSF s3 1 (rsz s 1) (lN (ptS B N (N - f) f).length)) 1 (rsz s 1 + 1) v) 326 0 (nI (ptE B N (N - f) f + 2))) b3 (nI f) (nI (rsz s 1)) (nI (ptS B N (N - f) f).length) g := fun v => by
      unfold f_X10_findPattern_J162
      rw [hset2, bs_some]
      dsimp only
      rw [bs_some, cI_SF, cI_SF, p3, show (2 : Int32) = nI 2 from rfl, nI_add]
    have hfin := fun v (hv : v = lN tl) => fin (cSI (cSF (cSF s3 1 (rsz s 1) (lN (ptS B N (N - f) f).length)) 1 (rsz s 1 + 1) v) 326 0 (nI (ptE B N (N - f) f + 2))) (ptE B N (N - f) f + 2) tl (cd_fr_SI (cd_fr_SF fr4 (by decide) _ _) (by decide) (by decide) _ _) ((hB4.SF _ _ _).SI (by decide) _ _) cI_SIe (by rw [rL_SI (by decide), ← hrow04]; exact rL_ext rfl (fun j _ => by rw [cF_SF, if_neg (by decide)])) (by rw [rL_SI (by decide), rL_SF, hL4, ← rL_len, ls_set1, hv]) g hg
    unfold f_X10_findPattern_J141
    rw [nI_1, hJ, hJ]
    by_cases q : c = 42
    · rw [if_pos q] at htl ⊢
      exact hfin 1 (by rw [htl]; rfl)
    · rw [if_neg q] at htl ⊢
      exact hfin 2 (by rw [htl]; rfl)
  have h182 : ∀ g : Int32, (g = 0 ∨ g = 1) → ∃ s' b', f_X10_findPattern_J178 n (cSF s3 1 (rsz s 1) (lN (ptS B N (N - f) f).length)) b3 (nI f) (nI (rsz s 1)) (nI (ptS B N (N - f) f).length) g = some (0, s', b') ∧ cd_fr [326] [0, 1] s s' ∧ rL s' 0 = rL s 0 ++ [(if (g = 1 ∧ (ptS B N (N - f) f).length ≠ 0) ∧ (ptS B N (N - f) f).length ≤ ms then (4 : Int32) else 1).toInt64, (nI f).toInt64, lN (rsz s 1)] ∧ rL s' 1 = rL s 1 ++ (lN (ptS B N (N - f) f).length :: lN 0 :: ptC B (ptS B N (N - f) f)) ∧ cI s' 326 0 = nI (ptE B N (N - f) f) ∧ Bd C s' b' ∧ b'.1 ≤ b3.1 ∧ b'.2 ≤ b3.2 := by
    intro g hg
    have hB4 : Bd C (cSF s3 1 (rsz s 1) (lN (ptS B N (N - f) f).length)) b3 := B3.SF _ _ _
    have hfin := fun g hg => fin (cSF s3 1 (rsz s 1) (lN (ptS B N (N - f) f).length)) (ptE B N (N - f) f) 0 fr4 hB4 p3 hrow04 hL4 g hg
    unfold f_X10_findPattern_J178
    by_cases q : (ptS B N (N - f) f).length = 0
    · rw [if_pos (show nI (ptS B N (N - f) f).length = 0 by rw [q]; rfl), if_neg (fun z => z.1.2 q)]
      obtain ⟨s', b', w1, w2, w3, w4⟩ := hfin 0 (Or.inl rfl)
      rw [if_neg (fun z => absurd z.1 (by decide))] at w3
      exact ⟨s', b', w1, w2, w3, w4⟩
    · rw [if_neg (show ¬ nI (ptS B N (N - f) f).length = 0 from fun z => q ((nI_eq (b := 0) (by omega) (by decide)).mp z))]
      obtain ⟨s', b', w1, w2, w3, w4⟩ := hfin g hg
      refine ⟨s', b', w1, w2, ?_, w4⟩
      rw [w3]
      by_cases q2 : g = 1 ∧ (ptS B N (N - f) f).length ≤ ms
      · rw [if_pos q2, if_pos ⟨⟨q2.1, q⟩, q2.2⟩]
      · rw [if_neg q2, if_neg (fun z => q2 ⟨z.1.1, z.2⟩)]
  have hg1 : ((if (1 : Int32) = 1 ∧ ptG (ptS B N (N - f) f) then (1 : Int32) else 0) = 1) ↔ ptG (ptS B N (N - f) f) := by
    by_cases q : ptG (ptS B N (N - f) f)
    · rw [if_pos ⟨rfl, q⟩]; exact ⟨fun _ => q, fun _ => rfl⟩
    · rw [if_neg (fun z => q z.2)]; exact ⟨fun z => absurd z (by decide), fun z => absurd z q⟩
  have tail0 : ∀ tl, tl = ptT B (ptE B N (N - f) f) → tl ≠ 0 → ∀ s', rL s' 0 = rL s 0 ++ [(if (if (1 : Int32) = 1 ∧ ptG (ptS B N (N - f) f) then (1 : Int32) else 0) = 1 ∧ (ptS B N (N - f) f).length ≤ ms then (4 : Int32) else 1).toInt64, (nI f).toInt64, lN (rsz s 1)] → rL s' 0 = rL s 0 ++ [(if ptG (ptS B N (N - f) f) ∧ (ptS B N (N - f) f).length ≤ ms ∧ ((ptS B N (N - f) f).length ≠ 0 ∨ ptT B (ptE B N (N - f) f) ≠ 0) then (4 : Int32) else 1).toInt64, (nI f).toInt64, lN (rsz s 1)] := by
    intro tl htl hne s' hs'
    rw [hs']
    by_cases q : ptG (ptS B N (N - f) f) ∧ (ptS B N (N - f) f).length ≤ ms
    · rw [if_pos ⟨hg1.mpr q.1, q.2⟩, if_pos ⟨q.1, q.2, Or.inr (by rw [← htl]; exact hne)⟩]
    · rw [if_neg (fun z => q ⟨hg1.mp z.1, z.2⟩), if_neg (fun z => q ⟨z.1, z.2.1⟩)]
  have none0 : ptT B (ptE B N (N - f) f) = 0 → ∀ s', rL s' 0 = rL s 0 ++ [(if ((if (1 : Int32) = 1 ∧ ptG (ptS B N (N - f) f) then (1 : Int32) else 0) = 1 ∧ (ptS B N (N - f) f).length ≠ 0) ∧ (ptS B N (N - f) f).length ≤ ms then (4 : Int32) else 1).toInt64, (nI f).toInt64, lN (rsz s 1)] → rL s' 0 = rL s 0 ++ [(if ptG (ptS B N (N - f) f) ∧ (ptS B N (N - f) f).length ≤ ms ∧ ((ptS B N (N - f) f).length ≠ 0 ∨ ptT B (ptE B N (N - f) f) ≠ 0) then (4 : Int32) else 1).toInt64, (nI f).toInt64, lN (rsz s 1)] := by
    intro ht s' hs'
    rw [hs']
    by_cases q : ptG (ptS B N (N - f) f) ∧ (ptS B N (N - f) f).length ≤ ms ∧ (ptS B N (N - f) f).length ≠ 0
    · rw [if_pos ⟨⟨hg1.mpr q.1, q.2.2⟩, q.2.1⟩, if_pos ⟨q.1, q.2.1, Or.inl q.2.2⟩]
    · rw [if_neg (fun z => q ⟨hg1.mp z.1.1, z.2, z.1.2⟩), if_neg (fun z => z.2.2.elim (fun y => q ⟨z.1, z.2.1, y⟩) (fun y => y ht))]
  have hstar : ∀ tl, ptT B (ptE B N (N - f) f) = tl → tl ≠ 0 → tl = (if B (ptE B N (N - f) f + 1) = 42 then 1 else 2) → B (ptE B N (N - f) f) = 47 → (B (ptE B N (N - f) f + 1) = 42 ∨ B (ptE B N (N - f) f + 1) = 45) → ∃ s' b', f_X10_findPattern n s b = some (0, s', b') ∧ cd_fr [326] [0, 1] s s' ∧ rL s' 0 = rL s 0 ++ [(if ptG (ptS B N (N - f) f) ∧ (ptS B N (N - f) f).length ≤ ms ∧ ((ptS B N (N - f) f).length ≠ 0 ∨ ptT B (ptE B N (N - f) f) ≠ 0) then (4 : Int32) else 1).toInt64, (nI f).toInt64, lN (rsz s 1)] ∧ rL s' 1 = rL s 1 ++ (lN (ptS B N (N - f) f).length :: lN (ptT B (ptE B N (N - f) f)) :: ptC B (ptS B N (N - f) f)) ∧ cI s' 326 0 = nI (if ptT B (ptE B N (N - f) f) = 0 then ptE B N (N - f) f else ptE B N (N - f) f + 2) ∧ Bd C s' b' ∧ b'.1 ≤ b.1 ∧ b'.2 ≤ b.2 := by
    intro tl h1 h2 h3 h47 hc
    obtain ⟨s', b', w1, w2, w3, w4, w5, w6, w7, w8⟩ := h145 _ hgood (B (ptE B N (N - f) f + 1)) tl h3
    refine ⟨s', b', hpre (0, s', b') ?_ w7 w8, w2, tail0 tl h1.symm h2 s' w3, by rw [h1]; exact w4, by rw [h1, if_neg h2]; exact w5, w6, by omega, by omega⟩
    rw [if_pos h47]
    by_cases q : B (ptE B N (N - f) f + 1) = 42
    · rw [if_pos q, w1]
    · rw [if_neg q, if_pos (hc.resolve_left q), w1]
  have hnone : ptT B (ptE B N (N - f) f) = 0 → (¬ B (ptE B N (N - f) f) = 47 ∨ (¬ B (ptE B N (N - f) f + 1) = 42 ∧ ¬ B (ptE B N (N - f) f + 1) = 45)) → ∃ s' b', f_X10_findPattern n s b = some (0, s', b') ∧ cd_fr [326] [0, 1] s s' ∧ rL s' 0 = rL s 0 ++ [(if ptG (ptS B N (N - f) f) ∧ (ptS B N (N - f) f).length ≤ ms ∧ ((ptS B N (N - f) f).length ≠ 0 ∨ ptT B (ptE B N (N - f) f) ≠ 0) then (4 : Int32) else 1).toInt64, (nI f).toInt64, lN (rsz s 1)] ∧ rL s' 1 = rL s 1 ++ (lN (ptS B N (N - f) f).length :: lN (ptT B (ptE B N (N - f) f)) :: ptC B (ptS B N (N - f) f)) ∧ cI s' 326 0 = nI (if ptT B (ptE B N (N - f) f) = 0 then ptE B N (N - f) f else ptE B N (N - f) f + 2) ∧ Bd C s' b' ∧ b'.1 ≤ b.1 ∧ b'.2 ≤ b.2 := by
    intro h1 hc
    obtain ⟨s', b', w1, w2, w3, w4, w5, w6, w7, w8⟩ := h182 _ hgood
    refine ⟨s', b', hpre (0, s', b') ?_ w7 w8, w2, none0 h1 s' w3, by rw [h1]; exact w4, by rw [h1, if_pos rfl]; exact w5, w6, by omega, by omega⟩
    by_cases q47 : B (ptE B N (N - f) f) = 47
    · obtain ⟨q1, q2⟩ := hc.resolve_left (fun z => z q47)
      rw [if_pos q47, if_neg q1, if_neg q2, w1]
    · rw [if_neg q47, w1]
  by_cases h47 : B (ptE B N (N - f) f) = 47
  · by_cases h42 : B (ptE B N (N - f) f + 1) = 42
    · exact hstar 1 (by unfold ptT; rw [if_pos h47, if_pos h42]) (by decide) (by rw [if_pos h42]) h47 (Or.inl h42)
    · by_cases h45 : B (ptE B N (N - f) f + 1) = 45
      · exact hstar 2 (by unfold ptT; rw [if_pos h47, if_neg h42, if_pos h45]) (by decide) (by rw [if_neg h42]) h47 (Or.inr h45)
      · exact hnone (by unfold ptT; rw [if_pos h47, if_neg h42, if_neg h45]) (Or.inr ⟨h42, h45⟩)
  · exact hnone (by unfold ptT; rw [if_neg h47]) (Or.inl h47)
