/-! the class: is it made already; a new one is kept -/
theorem c_idL {n k : Nat} {c : cd_S} {Ls : List (List Int32)} {l : List Int32} (h : CCO c Ls) (hd : DRL c l) (hk : k < Ls.length) (he : Ls[k].length = l.length) : ∀ (r j i : Nat), i + r = l.length → r < j → ∃ i', (f_X0_isDraft_L63 n (nI (ofs Ls k)) j c 1 (nI i) = some (c, 1, i') ∧ ∀ x (h1 : x < Ls[k].length) (h2 : x < l.length), i ≤ x → Ls[k][x] = l[x]) ∨ (f_X0_isDraft_L63 n (nI (ofs Ls k)) j c 1 (nI i) = some (c, 0, i') ∧ Ls[k] ≠ l)
  | 0, j + 1, i, hi, _ => by
    have h13 := h.le k hk
    rw [u_X0_isDraft_L63, if_neg (by decide), hd.1, if_pos ((nI_leI (by omega) (by omega)).mpr (by omega))]
    exact ⟨_, Or.inl ⟨rfl, fun x _ h2 h3 => by omega⟩⟩
  | r + 1, j + 1, i, hi, hj => by
    have h13 := h.le k hk
    have h1 := h.bnd (k := k) (by omega)
    have h2 := h.nx (n := 0) hk
    have h3 := ofs_mono (Ls := Ls) (k := k + 1) (j := Ls.length) (by omega)
    rw [u_X0_isDraft_L63, if_neg (by decide), hd.1, if_neg (fun z => absurd ((nI_leI (by omega) (by omega)).mp z) (by omega)), nI_add, c_at h.r3 (by omega), if_pos (by rw [h.z3]; omega), bs_some, h.s3 k hk i (by omega), i6432]
    dsimp only
    rw [c_ld4 (by omega), bs_some, hd.2 i (by omega)]
    obtain ⟨j', rfl⟩ : ∃ j', j = j' + 1 := ⟨j - 1, by omega⟩
    by_cases q : Ls[k][i] = l[i]
    · rw [if_pos q, f_X0_isDraft_J103, nI_1]
      obtain ⟨i', ⟨a1, a2⟩ | a⟩ := c_idL (n := n) h hd hk he r (j' + 1) (i + 1) (by omega) (by omega)
      · refine ⟨i', Or.inl ⟨a1, fun x b1 b2 b3 => ?_⟩⟩
        by_cases e : x = i
        · subst e; exact q
        · exact a2 x b1 b2 (by omega)
      · exact ⟨i', Or.inr a⟩
    · rw [if_neg q, f_X0_isDraft_J103, u_X0_isDraft_L63, if_pos rfl]
      refine ⟨_, Or.inr ⟨rfl, fun e => q ?_⟩⟩
      simp only [e]
theorem c_isDraft {n k : Nat} {c : cd_S} {Ls : List (List Int32)} {l : List Int32} (hn : 100 ≤ n) (h : CCO c Ls) (hd : DRL c l) (hl : l.length ≤ 14) (hk : k < Ls.length) : f_X0_isDraft n c (nI k) = some (if Ls[k] = l then 1 else 0, c) := by
  have hz := h.lz
  have h13 := h.le k hk
  have hnx := h.nx (n := 0) hk
  have key : ∀ (t : Nat), t = ofs Ls (k + 1) → f_X0_isDraft_J42 n c (nI (ofs Ls k)) (nI t) = some (if Ls[k] = l then 1 else 0, c) := fun t ht => by
    rw [f_X0_isDraft_J42, ht, nI_sub (ofs_mono (by omega)), hnx, show ofs Ls k + Ls[k].length - ofs Ls k = Ls[k].length by omega, hd.1]
    by_cases e : Ls[k].length = l.length
    · rw [if_pos (by rw [e]), f_X0_isDraft_J58]
      obtain ⟨i', ⟨a1, a2⟩ | ⟨a1, a2⟩⟩ := c_idL (n := n) h hd hk e l.length n 0 (by omega) (by omega)
      · rw [show nI 0 = 0 from rfl] at a1
        rw [a1, bs_some, if_pos (List.ext_getElem e (fun x b1 b2 => a2 x b1 b2 (by omega)))]
        rfl
      · rw [show nI 0 = 0 from rfl] at a1
        rw [a1, bs_some, if_neg a2]
        rfl
    · rw [if_neg (fun z => e ((nI_eq (by omega) (by omega)).mp z)), f_X0_isDraft_J58, if_neg (fun z => e (by rw [z]))]
      obtain ⟨n', rfl⟩ : ∃ n', n = n' + 1 := ⟨n - 1, by omega⟩
      rw [u_X0_isDraft_L63, if_pos rfl]
      rfl
  unfold f_X0_isDraft
  rw [h.at2 hk, bs_some]
  dsimp only
  rw [h.r2.1, h.z2, nI_1]
  by_cases q : Ls.length ≤ k + 1
  · rw [if_pos ((nI_leI (by omega) (by omega)).mpr q), h.r3.1, h.z3]
    exact key _ (by rw [show Ls.length = k + 1 by omega])
  · rw [if_neg (fun z => q ((nI_leI (by omega) (by omega)).mp z)), h.at2 (by omega), bs_some]
    exact key _ rfl
theorem c_at4 {n k : Nat} {c : cd_S} {Ls : List (List Int32)} (h : CCO c Ls) (hk : k < Ls.length) : f_X6_at n c 4 (nI k) = some (lastI Ls (bkt Ls[k]) k, c) := by
  rw [c_at h.r4 (by have := h.lz; omega), if_pos (by rw [h.z4]; exact hk), h.s4 k hk, i6432]
theorem c_srch {n : Nat} {c : cd_S} {b : cd_B} {Ls : List (List Int32)} {l : List Int32} {l2 : Int32} (hn : 100 ≤ n) (h : CCO c Ls) (hd : DRL c l) (hl : l.length ≤ 14) : ∀ (k j e : Nat), k ≤ Ls.length → k < j → e + k ≤ 4000 → (∃ q, ∃ hq : q < Ls.length, Ls[q] = l ∧ f_X0_settle_L66 n l2 j c b (lastI Ls (bkt l) k) (nI e) = some (Sum.inl (nI q, c, b))) ∨ ((∀ q (hq : q < Ls.length), q < k → Ls[q] ≠ l) ∧ ∃ e', f_X0_settle_L66 n l2 j c b (lastI Ls (bkt l) k) (nI e) = some (Sum.inr (c, b, -1, e')))
  | 0, j + 1, e, hk, hj, he => by
    right
    refine ⟨fun q _ z => absurd z (by omega), nI e, ?_⟩
    rw [u_X0_settle_L66]
    split
    · rfl
    · rw [if_pos (show lastI Ls (bkt l) 0 = (-1 : Int32) from rfl)]; rfl
  | k + 1, j, e, hk, hj, he => by
    have hz := h.lz
    by_cases q : bkt (Ls.getD k []) = bkt l
    · obtain ⟨j, rfl⟩ : ∃ j', j = j' + 1 := ⟨j - 1, by omega⟩
      have e1 : lastI Ls (bkt l) (k + 1) = nI k := if_pos q
      rw [gd_eq (by omega)] at q
      rw [e1, u_X0_settle_L66, if_neg (show ¬ (4000 : Int32) ≤ nI e from fun z => absurd ((nI_leI (a := 4000) (by decide) (by omega)).mp z) (by omega)), if_neg (show ¬ nI k = (-1 : Int32) from nI_m1 (by omega)), c_isDraft hn h hd hl (by omega), bs_some]
      dsimp only
      by_cases e2 : Ls[k] = l
      · rw [if_pos e2, if_neg (by decide)]
        exact Or.inl ⟨k, by omega, e2, rfl⟩
      · rw [if_neg e2, if_pos rfl, c_at4 h (by omega), bs_some, nI_1, q]
        dsimp only
        rcases c_srch (l2 := l2) (b := b) hn h hd hl k j (e + 1) (by omega) (by omega) (by omega) with a | ⟨a1, a2⟩
        · exact Or.inl a
        · refine Or.inr ⟨fun x hx hxk => ?_, a2⟩
          by_cases e3 : x = k
          · subst e3; exact e2
          · exact a1 x hx (by omega)
    · have e1 : lastI Ls (bkt l) (k + 1) = lastI Ls (bkt l) k := if_neg q
      rw [gd_eq (by omega)] at q
      rw [e1]
      rcases c_srch (l2 := l2) (b := b) hn h hd hl k j e (by omega) (by omega) (by omega) with a | ⟨a1, a2⟩
      · exact Or.inl a
      · refine Or.inr ⟨fun x hx hxk => ?_, a2⟩
        by_cases e3 : x = k
        · subst e3; exact fun z => q (by rw [z])
        · exact a1 x hx (by omega)
theorem c_kpL {n s : Nat} {C : Nat × Nat} {l1 l2 : Int32} (hC : BC C) (hz : s ≤ 14) : ∀ (t : List Int32) (j k : Nat) (c : cd_S) (b : cd_B), cI c 5 0 = nI s → k + t.length = s → t.length < j → (∀ i (h : i < t.length), cAr c 4 0 (k + i) = t[i]) → rsz c 3 + t.length ≤ 60000 → Bd C c b → ∃ c' b', f_X0_keep_L25 n l1 l2 j c b (nI k) = some (c', b', nI s) ∧ Bd C c' b' ∧ ble b' b ∧ cd_fr [] [3] c c' ∧ rsz c' 3 = rsz c 3 + t.length ∧ (∀ i, i < rsz c 3 → cRF c' 3 i = cRF c 3 i) ∧ (∀ i (h : i < t.length), cRF c' 3 (rsz c 3 + i) = (t[i]).toInt64)
  | [], j + 1, k, c, b, hs, hk, _, _, _, hB => by
    simp only [List.length_nil, Nat.add_zero] at hk
    refine ⟨c, b, ?_, hB, ble.refl _, cd_fr_refl _ _ _, by simp, fun _ _ => rfl, fun i h => absurd h (by simp)⟩
    rw [u_X0_keep_L25, hs, if_pos ((nI_leI (by omega) (by omega)).mpr (by omega)), hk]
  | x :: t, j + 1, k, c, b, hs, hk, hj, h, hr, hB => by
    simp only [List.length_cons] at hk hj hr
    have hx : cAr c 4 0 k = x := h 0 (by simp)
    have hR := hB.1 3 (by omega)
    obtain ⟨b1, g1, g2, g3, g4⟩ := c_add (n := n) (r := 3) (v := x.toInt64) hC hB (by omega) (by rw [show rcap 3 = 65536 by decide]; omega)
    have hsz : rsz (rAdd c 3 x.toInt64) 3 = rsz c 3 + 1 := rAdd_sz hR.szlt
    obtain ⟨c', b', a1, a2, a3, a4, a5, a6, a7⟩ := c_kpL (n := n) (l1 := l1) (l2 := l2) hC hz t j (k + 1) (rAdd c 3 x.toInt64) b1 (by rw [rAdd_Io (by decide)]; exact hs) (by omega) (by omega) (fun i hi => by rw [rAdd_A, show k + 1 + i = k + (i + 1) by omega, h (i + 1) (by simp; omega)]; rfl) (by omega) g2
    refine ⟨c', b', ?_, a2, a3.tr ⟨g3, g4⟩, cd_fr_tr (cd_fr_add (cd_fr_refl c [] [3]) (by simp) _) a4 (fun _ q => ⟨q, q⟩) (fun _ q => ⟨q, q⟩), by rw [a5, hsz, List.length_cons]; omega, fun i hi => ?_, fun i hi => ?_⟩
    · rw [u_X0_keep_L25, hs, if_neg (fun z => absurd ((nI_leI (by omega) (by omega)).mp z) (by omega)), c_ld4 (by omega), bs_some, hx, g1, bs_some, nI_1]
      exact c_ck a1 a3.1 a3.2
    · rw [a6 i (by omega), rAdd_Fl hR.2.1 hi]
    · cases i with
      | zero => rw [Nat.add_zero, a6 _ (by omega), rAdd_Fe]; rfl
      | succ i =>
        have := a7 i (by simpa using hi)
        rw [hsz] at this
        rw [show rsz c 3 + (i + 1) = rsz c 3 + 1 + i by omega, this]; rfl
theorem c_keep {n : Nat} {C : Nat × Nat} {c : cd_S} {b : cd_B} {Ls : List (List Int32)} {l : List Int32} (hn : 100 ≤ n) (hC : BC C) (h : CCO c Ls) (hd : DRL c l) (hl : l.length ≤ 13) (hz : Ls.length < 4000) (hB : Bd C c b) : ∃ c' b', f_X0_keep n c b (bkt l) = some (nI Ls.length, c', b') ∧ Bd C c' b' ∧ ble b' b ∧ cd_fr [3] [2, 3, 4] c c' ∧ CCO c' (Ls ++ [l]) := by
  have hof := h.bnd (Nat.le_refl _)
  obtain ⟨bb, hb1, hb2⟩ := bkt_lt l
  obtain ⟨b1, g1, g2, g3, g4⟩ := c_add (n := n) (r := 2) (v := (cI c 193 3).toInt64) hC hB (by omega) (by rw [show rcap 2 = 4096 by decide, h.z2]; omega)
  have hf1 : cd_fr [] [2] c (rAdd c 2 (cI c 193 3).toInt64) := cd_fr_add (cd_fr_refl c [] [2]) (by simp) _
  have hs1 : rsz (rAdd c 2 (cI c 193 3).toInt64) 2 = rsz c 2 + 1 := rAdd_sz h.r2.szlt
  have hs13 : rsz (rAdd c 2 (cI c 193 3).toInt64) 3 = rsz c 3 := rAdd_szo (by decide)
  obtain ⟨c2, b2, a1, a2, a3, a4, a5, a6, a7⟩ := c_kpL (n := n) (l1 := bkt l) (l2 := cI c 193 2) (s := l.length) hC (by omega) l n 0 (rAdd c 2 (cI c 193 3).toInt64) b1 (by rw [rAdd_Io (by decide)]; exact hd.1) (by omega) (by omega) (fun i hi => by rw [rAdd_A, Nat.zero_add]; exact hd.2 i hi) (by rw [hs13, h.z3]; omega) g2
  have hh : cAr c2 3 0 bb = lastI Ls (nI bb) Ls.length := by rw [cd_frA a4 (by simp) (by decide), rAdd_A, h.hd bb hb1]
  have hz4 : rsz c2 4 = Ls.length := by
    have e : rsz c2 4 = rsz (rAdd c 2 (cI c 193 3).toInt64) 4 := by unfold rsz; rw [cd_frz a4 (by decide)]
    rw [e, rAdd_szo (by decide), h.z4]
  have hz2 : rsz c2 2 = Ls.length + 1 := by
    have e : rsz c2 2 = rsz (rAdd c 2 (cI c 193 3).toInt64) 2 := by unfold rsz; rw [cd_frz a4 (by decide)]
    rw [e, hs1, h.z2]
  obtain ⟨b3, d1, d2, d3, d4⟩ := c_add (n := n) (r := 4) (v := (lastI Ls (nI bb) Ls.length).toInt64) hC a2 (by omega) (by rw [show rcap 4 = 4096 by decide, hz4]; omega)
  have hR2 := a2.1 2 (by omega)
  have hR3 := a2.1 3 (by omega)
  have hR4 := a2.1 4 (by omega)
  have hw : Bd C (cSA (rAdd c2 4 (lastI Ls (nI bb) Ls.length).toInt64) 3 0 bb (nI Ls.length)) b3 := d2.fr (cd_fr_SA (cd_fr_refl _ [3] []) (by simp) _ _ _)
  refine ⟨cSA (rAdd c2 4 (lastI Ls (nI bb) Ls.length).toInt64) 3 0 bb (nI Ls.length), b3, ?_, hw, ?_, ?_, ?_⟩
  · unfold f_X0_keep
    have hle1 : ble b3 b1 := ble.tr ⟨d3, d4⟩ a3
    have hle0 : ble b3 b := hle1.tr ⟨g3, g4⟩
    refine c_ck ?_ hle0.1 hle0.2
    rw [g1, bs_some]
    refine c_ck ?_ hle1.1 hle1.2
    dsimp only
    have a1' : f_X0_keep_L25 n (bkt l) (cI c 193 2) n (rAdd c 2 (cI c 193 3).toInt64) b1 0 = some (c2, b2, nI l.length) := a1
    rw [a1', bs_some]
    refine c_ck ?_ d3 d4
    dsimp only
    rw [hb2, if_neg (show ¬ nI bb < 0 from nI_nn (by omega)), if_neg (show ¬ (256 : Int32) ≤ nI bb from fun z => absurd ((nI_leI (a := 256) (by decide) (by omega)).mp z) (by omega)), c_ld3 hb1, bs_some, hh, d1, bs_some]
    refine c_ck ?_ (Nat.le_refl _) (Nat.le_refl _)
    dsimp only
    rw [h.r2.1, h.z2, c_st3 hb1, bs_some]
  · exact (ble.tr ⟨d3, d4⟩ a3).tr ⟨g3, g4⟩
  · refine cd_fr_SA (cd_fr_add (cd_fr_tr hf1 a4 (fun k _ => ⟨by simp, by simp⟩) (fun k hk => ?_)) (by simp) _) (by simp) _ _ _
    simp at hk ⊢; omega
  · have F2 : ∀ i, cRF (cSA (rAdd c2 4 (lastI Ls (nI bb) Ls.length).toInt64) 3 0 bb (nI Ls.length)) 2 i = cRF (rAdd c 2 (cI c 193 3).toInt64) 2 i := fun i => by
      show cRF (rAdd c2 4 (lastI Ls (nI bb) Ls.length).toInt64) 2 i = _
      rw [rAdd_Fo (by decide), cd_frF a4 (by decide)]
    have F3 : ∀ i, cRF (cSA (rAdd c2 4 (lastI Ls (nI bb) Ls.length).toInt64) 3 0 bb (nI Ls.length)) 3 i = cRF c2 3 i := fun i => by
      show cRF (rAdd c2 4 (lastI Ls (nI bb) Ls.length).toInt64) 3 i = _
      rw [rAdd_Fo (by decide)]
    have F4 : ∀ i, i < Ls.length → cRF (cSA (rAdd c2 4 (lastI Ls (nI bb) Ls.length).toInt64) 3 0 bb (nI Ls.length)) 4 i = cRF c 4 i := fun i hi => by
      show cRF (rAdd c2 4 (lastI Ls (nI bb) Ls.length).toInt64) 4 i = _
      rw [rAdd_Fl hR4.2.1 (by omega), cd_frF a4 (by decide), rAdd_Fo (by decide)]
    have F4e : cRF (cSA (rAdd c2 4 (lastI Ls (nI bb) Ls.length).toInt64) 3 0 bb (nI Ls.length)) 4 Ls.length = (lastI Ls (nI bb) Ls.length).toInt64 := by
      show cRF (rAdd c2 4 (lastI Ls (nI bb) Ls.length).toInt64) 4 Ls.length = _
      rw [← hz4, rAdd_Fe]
    have Z : ∀ r, rsz (cSA (rAdd c2 4 (lastI Ls (nI bb) Ls.length).toInt64) 3 0 bb (nI Ls.length)) r = rsz (rAdd c2 4 (lastI Ls (nI bb) Ls.length).toInt64) r := fun r => rfl
    have hL : (Ls ++ [l]).length = Ls.length + 1 := by simp
    have hnx : ofs (Ls ++ [l]) (Ls.length + 1) = ofs Ls Ls.length + l.length := by
      show ofs (Ls ++ [l]) Ls.length + _ = _
      rw [ofs_app (Nat.le_refl _), gd_end]
    have hle : ∀ k (hk : k < (Ls ++ [l]).length), ((Ls ++ [l])[k]).length ≤ 13 := fun k hk => by
      by_cases e : k < Ls.length
      · rw [List.getElem_append_left e]; exact h.le k e
      · rw [List.getElem_append_right (by omega)]
        simp only [List.getElem_singleton]
        exact hl
    refine ⟨hw.1 2 (by omega), hw.1 3 (by omega), hw.1 4 (by omega), ?_, ?_, ?_, ?_, ?_, ?_, ?_, hle, by omega⟩
    · rw [Z, rAdd_szo (by decide), hz2, hL]
    · rw [Z, rAdd_szo (by decide), a5, hs13, h.z3, hL, hnx]
    · rw [Z, rAdd_sz hR4.szlt, hz4, hL]
    · intro k hk
      rw [F2]
      by_cases e : k < Ls.length
      · rw [rAdd_Fl h.r2.2.1 (by rw [h.z2]; exact e), h.s2 k e, ofs_app (by omega)]
      · obtain rfl : k = Ls.length := by omega
        rw [← h.z2, rAdd_Fe, h.r3.1, h.z3, h.z2, ofs_app (Nat.le_refl _)]
    · intro k hk i hi
      rw [F3]
      by_cases e : k < Ls.length
      · have e2 : (Ls ++ [l])[k] = Ls[k] := List.getElem_append_left e
        have e3 : i < Ls[k].length := by rw [e2] at hi; exact hi
        have b1 := h.nx (n := 0) e
        have b2 := ofs_mono (Ls := Ls) (k := k + 1) (j := Ls.length) (by omega)
        rw [ofs_app (by omega), a6 _ (by rw [hs13, h.z3]; omega), rAdd_Fo (by decide), h.s3 k e i e3]
        simp only [e2]
      · obtain rfl : k = Ls.length := by omega
        have e2 : (Ls ++ [l])[Ls.length] = l := by rw [List.getElem_append_right (Nat.le_refl _)]; simp
        have e3 : i < l.length := by rw [e2] at hi; exact hi
        have := a7 i e3
        rw [hs13, h.z3] at this
        rw [ofs_app (Nat.le_refl _), this]
        simp only [e2]
    · intro k hk
      by_cases e : k < Ls.length
      · have e2 : (Ls ++ [l])[k] = Ls[k] := List.getElem_append_left e
        rw [F4 k e, h.s4 k e, e2, lastI_app (by omega)]
      · obtain rfl : k = Ls.length := by omega
        have e2 : (Ls ++ [l])[Ls.length] = l := by rw [List.getElem_append_right (Nat.le_refl _)]; simp
        rw [F4e, e2, hb2, lastI_app (Nat.le_refl _)]
    · intro x hx
      rw [hL]
      show _ = if bkt ((Ls ++ [l]).getD Ls.length []) = nI x then nI Ls.length else lastI (Ls ++ [l]) (nI x) Ls.length
      rw [gd_end, hb2, lastI_app (Nat.le_refl _)]
      by_cases e : x = bb
      · subst e; rw [cA_SAe, if_pos rfl]
      · rw [cA_SAi e, rAdd_A, cd_frA a4 (by simp) (by decide), rAdd_A, h.hd x hx, if_neg (fun z => e ((nI_eq (by omega) (by omega)).mp z).symm)]
