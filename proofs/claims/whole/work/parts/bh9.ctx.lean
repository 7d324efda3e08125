/-! the context of a frame: the class against the model -/
theorem c_settle {n d : Nat} {C : Nat × Nat} {c : cd_S} {b : cd_B} {Ls : List (List Int32)} {l0 : List Int32} (hn : 4100 ≤ n) (hC : BC C) (h : CCO c Ls) (hd : DRL c l0) (hl : l0.length ≤ 14) (h13 : ∀ l, AC (l0.map (fun x => x ||| dbit d)) l → l.length ≤ 13) (hz : Ls.length < 4000) (hB : Bd C c b) : ∃ q c' b' Ls' l, f_X0_settle n c b (nI d) = some (nI q, c', b') ∧ Bd C c' b' ∧ ble b' b ∧ cd_fr [3, 4, 5] [2, 3, 4] c c' ∧ AC (l0.map (fun x => x ||| dbit d)) l ∧ so l ∧ CCO c' Ls' ∧ ((∃ hq : q < Ls.length, Ls[q] = l ∧ Ls' = Ls) ∨ ((∀ x (hx : x < Ls.length), Ls[x] ≠ l) ∧ q = Ls.length ∧ Ls' = Ls ++ [l])) := by
  obtain ⟨c1, g1, g2, g3⟩ := c_or (n := n) (d := d) (b := b) (by omega) hd hl
  obtain ⟨c2, R, a1, a2, a3, a4, a5⟩ := c_reduce (n := n) (by omega) g3 (by simpa using hl)
  obtain ⟨c3, Q, d1, d2, d3, d4, d5⟩ := c_sort (n := n) (by omega) a3 a5
  have hac := a4.perm d5
  have hq13 := h13 Q hac
  have e1 := c_bucketOf (n := n) (by omega) d3 (by omega)
  have hf : cd_fr [3, 4, 5] [] c c3 := cd_fr_tr (cd_fr_tr (L3 := [3, 4, 5]) (R3 := []) g2 a2 (fun k hk => by simp at hk ⊢; omega) (fun k hk => ⟨hk, hk⟩)) d2 (fun k hk => by simp at hk ⊢; omega) (fun k hk => ⟨hk, hk⟩)
  have hf2 : cd_fr [4, 5] [] c c3 := cd_fr_tr (cd_fr_tr (L3 := [4, 5]) (R3 := []) g2 a2 (fun k hk => by simp at hk ⊢; omega) (fun k hk => ⟨hk, hk⟩)) d2 (fun k hk => by simp at hk ⊢; omega) (fun k hk => ⟨hk, hk⟩)
  have h3 := h.fr hf2 (by decide) (by simp) (by simp) (by simp)
  have hB3 : Bd C c3 b := hB.fr hf2
  obtain ⟨bb, hb1, hb2⟩ := bkt_lt Q
  have hh : cAr c3 3 0 bb = lastI Ls (bkt Q) Ls.length := by rw [h3.hd bb hb1, hb2]
  unfold f_X0_settle
  have fin : ∀ {r : Int32 × cd_S × cd_B}, f_X0_settle_J62 n c3 b (bkt Q) (lastI Ls (bkt Q) Ls.length) = some r → ble r.2.2 b → (cd_ck (fun (q : (Int32 × cd_S × cd_B)) => q.2.2) b <| Option.bind (f_X0_settle_L2 n (nI d) n c b 0) fun q9 => cd_ck (fun (q : (Int32 × cd_S × cd_B)) => q.2.2) (q9.2.1) <| Option.bind (f_X0_reduce n q9.1 ) fun p11 => Option.bind (f_X0_sort n p11.2 ) fun p12 => Option.bind (f_X0_bucketOf n p12.2 ) fun p13 => if p13.1 < 0 then (f_X0_settle_J61 n p13.2 (q9.2.1) (p13.1)) else (if (256 : Int32) ≤ p13.1 then (f_X0_settle_J61 n p13.2 (q9.2.1) (p13.1)) else (Option.bind (cldA p13.2 3 0 (p13.1)) fun v14 => f_X0_settle_J62 n p13.2 (q9.2.1) (p13.1) v14))) = some r := by
    intro r hr hle
    refine c_ck ?_ hle.1 hle.2
    rw [g1, bs_some]
    refine c_ck ?_ hle.1 hle.2
    dsimp only
    rw [a1, bs_some]
    dsimp only
    rw [d1, bs_some]
    dsimp only
    rw [e1, bs_some]
    dsimp only
    rw [hb2, if_neg (show ¬ nI bb < 0 from nI_nn (by omega)), if_neg (show ¬ (256 : Int32) ≤ nI bb from fun z => absurd ((nI_leI (a := 256) (by decide) (by omega)).mp z) (by omega)), c_ld3 hb1, bs_some, hh, ← hb2]
    exact hr
  rcases c_srch (n := n) (b := b) (l2 := bkt Q) (by omega) h3 d3 (by omega) Ls.length n 0 (Nat.le_refl _) (by omega) (by omega) with ⟨q, hq, e2, e3⟩ | ⟨e2, e', e3⟩
  · refine ⟨q, c3, b, Ls, Q, ?_, hB3, ble.refl _, cd_fr_mono hf (fun _ z => z) (fun _ z => absurd z (by simp)), hac, d4, h3, Or.inl ⟨hq, e2, rfl⟩⟩
    refine fin ?_ (ble.refl _)
    unfold f_X0_settle_J62
    have e3' : f_X0_settle_L66 n (bkt Q) n c3 b (lastI Ls (bkt Q) Ls.length) 0 = some (Sum.inl (nI q, c3, b)) := e3
    rw [e3', bs_some]
    exact c_ck rfl (Nat.le_refl _) (Nat.le_refl _)
  · obtain ⟨c4, b4, k1, k2, k3, k4, k5⟩ := c_keep (n := n) (by omega) hC h3 d3 hq13 hz hB3
    refine ⟨Ls.length, c4, b4, Ls ++ [Q], Q, ?_, k2, k3, cd_fr_tr hf k4 (fun k hk => by simp at hk ⊢; omega) (fun k hk => ⟨by simp, hk⟩), hac, d4, k5, Or.inr ⟨fun x hx => e2 x hx hx, rfl, rfl⟩⟩
    refine fin ?_ k3
    unfold f_X0_settle_J62
    have e3' : f_X0_settle_L66 n (bkt Q) n c3 b (lastI Ls (bkt Q) Ls.length) 0 = some (Sum.inr (c3, b, -1, e')) := e3
    rw [e3', bs_some]
    refine c_ck ?_ k3.1 k3.2
    simp only [Sum.elim_inr]
    rw [k1, bs_some]
    exact c_ck rfl (Nat.le_refl _) (Nat.le_refl _)
/-- the contexts made so far, on both sides -/
def CTX (c : cd_S) (m : md_S) (Ls : List (List Int32)) : Prop := MCO m ([0] :: Ls) ∧ CCO c Ls ∧ (∀ l, l ∈ Ls → GC l) ∧ (∀ i j (hj : j < Ls.length) (hi : i < j), Ls[i]'(by omega) ≠ Ls[j])
theorem CTX.gc {c : cd_S} {m : md_S} {Ls : List (List Int32)} (h : CTX c m Ls) {o : Nat} (ho : o < ([0] :: Ls).length) : GC ([0] :: Ls)[o] := by
  rcases List.mem_cons.mp (List.getElem_mem ho) with e | e
  · rw [e]; exact GC.zero
  · exact h.2.2.1 _ e
theorem gS_eq {p : List Int32} {d w : Nat} : gS p d w = (p ++ if w = 0 then [] else [lbit (w - 1)]).map (fun x => x ||| dbit d) := rfl
theorem c_mkJ {n u o d w s : Nat} {C : Nat × Nat} {c : cd_S} {b : cd_B} {Ls : List (List Int32)} (hn : 4100 ≤ n) (hC : BC C) (h : CCO c Ls) (ho : o < ([0] :: Ls).length) (hg : GC ([0] :: Ls)[o]) (hd8 : d < 8) (hw : w ≤ 12) (hz : Ls.length < 4000) (hB : Bd C c b) (h289 : cI c 289 u = nI s) (hs : s < 100) (h291 : cI c 291 u = nI d) (h296 : if s = 3 then 0 < w ∧ cI c 296 u = nI (w - 1) else w = 0) : ∃ q c' b' Ls' l, f_X1_makeContext_J35 n u c b (cnI o) = some (nI q, c', b') ∧ Bd C c' b' ∧ ble b' b ∧ cd_fr [3, 4, 5] [2, 3, 4] c c' ∧ AC (gS ([0] :: Ls)[o] d w) l ∧ so l ∧ CCO c' Ls' ∧ ((∃ hq : q < Ls.length, Ls[q] = l ∧ Ls' = Ls) ∨ ((∀ x (hx : x < Ls.length), Ls[x] ≠ l) ∧ q = Ls.length ∧ Ls' = Ls ++ [l])) := by
  obtain ⟨c1, g1, g2, g3⟩ := c_load (n := n) (by omega) h ho
  have h13 : ([0] :: Ls)[o].length ≤ 13 := by
    cases o with
    | zero => simp
    | succ k => exact h.le k (by simpa using ho)
  have fin : ∀ (c2 : cd_S) (l0 : List Int32), cd_fr [4, 5] [] c c2 → DRL c2 l0 → l0 = ([0] :: Ls)[o] ++ (if w = 0 then [] else [lbit (w - 1)]) → ∃ q c' b' Ls' l, f_X1_makeContext_J62 n u c2 b = some (nI q, c', b') ∧ Bd C c' b' ∧ ble b' b ∧ cd_fr [3, 4, 5] [2, 3, 4] c c' ∧ AC (gS ([0] :: Ls)[o] d w) l ∧ so l ∧ CCO c' Ls' ∧ ((∃ hq : q < Ls.length, Ls[q] = l ∧ Ls' = Ls) ∨ ((∀ x (hx : x < Ls.length), Ls[x] ≠ l) ∧ q = Ls.length ∧ Ls' = Ls ++ [l])) := fun c2 l0 a1 a2 a3 => by
    have hl0 : l0.length ≤ 14 := by
      rw [a3, List.length_append]
      split <;> simp <;> omega
    obtain ⟨q, c', b', Ls', l, k1, k2, k3, k4, k5, k6⟩ := c_settle (n := n) (d := d) hn hC (h.fr a1 (by decide) (by simp) (by simp) (by simp)) a2 hl0 (fun l hl => by
      rw [a3, ← gS_eq] at hl
      exact (GC.step hd8 hw hg hl).len hl) hz (hB.fr a1)
    rw [a3, ← gS_eq] at k5
    refine ⟨q, c', b', Ls', l, ?_, k2, k3, cd_fr_tr a1 k4 (fun k hk => by simp at hk ⊢; omega) (fun k hk => ⟨by simp, hk⟩), k5, k6⟩
    unfold f_X1_makeContext_J62
    rw [cd_frI a1 (by decide) (by decide), h291, k1, bs_some]
    exact c_ck rfl (Nat.le_refl _) (Nat.le_refl _)
  unfold f_X1_makeContext_J35
  rw [g1, bs_some]
  dsimp only
  rw [cd_frI g3 (by decide) (by decide), h289]
  by_cases e3 : s = 3
  · rw [if_pos e3] at h296
    rw [if_pos (show nI s = (3 : Int32) by rw [e3]; rfl), cd_frI g3 (by decide) (by decide), h296.2, show (8 : Int32) = nI 8 from rfl, nI_add]
    obtain ⟨c2, k1, k2, k3⟩ := c_addDraft (n := n) (a := lbit (w - 1)) g2 (by omega)
    have k1' : f_X0_addDraft n c1 ((1 : Int32) <<< (nI (8 + (w - 1)) &&& 31)) = some (0, c2) := k1
    rw [k1', bs_some]
    exact fin c2 _ (cd_fr_tr g3 k3 (fun _ q => ⟨q, q⟩) (fun _ q => ⟨q, q⟩)) k2 (by rw [if_neg (by omega)])
  · rw [if_neg e3] at h296
    rw [if_neg (show ¬ nI s = (3 : Int32) from fun z => e3 ((nI_eq (b := 3) (by omega) (by decide)).mp z))]
    exact fin c1 _ g3 g2 (by rw [if_pos h296, List.append_nil])
/-- both make the same context; the class's number is the model's less one -/
theorem ctx_ok {n u o d w s t : Nat} {C : Nat × Nat} {c : cd_S} {m : md_S} {b : cd_B} {a2 : Int32} {Ls : List (List Int32)} (hn : 4100 ≤ n) (hC : BC C) (h : CTX c m Ls) (ho : o < ([0] :: Ls).length) (hd8 : d < 8) (hw : w ≤ 12) (hz : Ls.length + 1 < 4001) (hB : Bd C c b) (hu : u < 60) (h289 : cI c 289 u = nI s) (hs : s < 100) (h291 : cI c 291 u = nI d) (h296 : if s = 3 then 0 < w ∧ cI c 296 u = nI (w - 1) ∧ mA m 42 u = nI (w - 1) else w = 0) (h37 : mA m 37 u = nI t) (ht : t < 8) (h32 : mA m 32 t = nI d) (h36 : mA m 36 u = nI s) (ha : s ≠ 2 → s ≠ 4 → a2 = cnI o) (h4 : s = 4 → ∃ x, cd_dp c 50 0 = some x ∧ cI c 241 x = cnI o) : ∃ q c' b' m' Ls', f_X1_makeContext n c b u a2 = some (nI q, c', b') ∧ f_X12_contextOf n m (nI u) (nI o) = some (nI (q + 1), m') ∧ q < Ls'.length ∧ Bd C c' b' ∧ ble b' b ∧ cd_fr [3, 4, 5] [2, 3, 4] c c' ∧ md_fr [130, 131, 132, 133, 134] m m' ∧ CTX c' m' Ls' ∧ (Ls' = Ls ∨ ∃ l, Ls' = Ls ++ [l]) := by
  have hgo := h.gc ho
  obtain ⟨q2, m', L2, l2, k1, k2, k3, k4, k5, k6⟩ := m_contextOf (n := n) (w := w) hn h.1 (by simp only [List.length_cons]; omega) ho hgo hu h37 ht h32 hd8 h36 hs hw (by
    by_cases e : s = 3
    · rw [if_pos e] at h296 ⊢; exact ⟨h296.1, h296.2.2⟩
    · rw [if_neg e] at h296 ⊢; exact h296)
  have h296' : if s = 3 then 0 < w ∧ cI c 296 u = nI (w - 1) else w = 0 := by
    by_cases e : s = 3
    · rw [if_pos e] at h296 ⊢; exact ⟨h296.1, h296.2.1⟩
    · rw [if_neg e] at h296 ⊢; exact h296
  have cls : ∃ q c' b' Ls' l, f_X1_makeContext n c b u a2 = some (nI q, c', b') ∧ Bd C c' b' ∧ ble b' b ∧ cd_fr [3, 4, 5] [2, 3, 4] c c' ∧ AC (gS (if s = 2 then [0] else ([0] :: Ls)[o]) d w) l ∧ so l ∧ CCO c' Ls' ∧ ((∃ hq : q < Ls.length, Ls[q] = l ∧ Ls' = Ls) ∨ ((∀ x (hx : x < Ls.length), Ls[x] ≠ l) ∧ q = Ls.length ∧ Ls' = Ls ++ [l])) := by
    unfold f_X1_makeContext
    rw [h289]
    by_cases e2 : s = 2
    · obtain ⟨q, c', b', Ls', l, a1, a2, a3, a4⟩ := c_mkJ (n := n) (o := 0) hn hC h.2.1 (by simp) GC.zero hd8 hw (by omega) hB h289 hs h291 h296'
      rw [if_pos (show nI s = (2 : Int32) by rw [e2]; rfl), if_pos e2]
      exact ⟨q, c', b', Ls', l, c_ck a1 a3.1 a3.2, a2, a3, a4⟩
    · rw [if_neg (show ¬ nI s = (2 : Int32) from fun z => e2 ((nI_eq (b := 2) (by omega) (by decide)).mp z)), if_neg e2]
      obtain ⟨q, c', b', Ls', l, a1, a2', a3, a4⟩ := c_mkJ (n := n) (o := o) hn hC h.2.1 ho hgo hd8 hw (by omega) hB h289 hs h291 h296'
      refine ⟨q, c', b', Ls', l, c_ck ?_ a3.1 a3.2, a2', a3, a4⟩
      by_cases e4 : s = 4
      · obtain ⟨x, x1, x2⟩ := h4 e4
        rw [if_pos (show nI s = (4 : Int32) by rw [e4]; rfl), x1, bs_some, x2]
        exact a1
      · rw [if_neg (show ¬ nI s = (4 : Int32) from fun z => e4 ((nI_eq (b := 4) (by omega) (by decide)).mp z)), ha e2 e4]
        exact a1
  obtain ⟨q, c', b', Ls', l, a1, a2, a3, a4, a5, a6, a7, a8⟩ := cls
  have el : l2 = l := k3.eq a5 k4 a6
  have hgl : GC l := by
    refine GC.step hd8 hw ?_ a5
    split
    · exact GC.zero
    · exact hgo
  subst el
  rcases a8 with ⟨hq, e1, e2⟩ | ⟨e1, e2, e3⟩
  · rcases k5 with ⟨b1, b2, b3, b4⟩ | ⟨b1, b2, b3⟩
    · obtain ⟨x, rfl⟩ : ∃ x, q2 = x + 1 := ⟨q2 - 1, by omega⟩
      have hx : x < Ls.length := by simpa using b1
      have e3 : Ls[x] = Ls[q] := by rw [e1]; exact b3
      have e4 : x = q := by
        rcases Nat.lt_trichotomy x q with z | z | z
        · exact absurd e3 (h.2.2.2 x q hq z)
        · exact z
        · exact absurd e3.symm (h.2.2.2 q x hx z)
      subst e4
      rw [e2] at a7
      rw [b4] at k6
      exact ⟨x, c', b', m', Ls, a1, k1, hx, a2, a3, a4, k2, ⟨k6, a7, h.2.2.1, h.2.2.2⟩, Or.inl rfl⟩
    · exact absurd e1 (b1 (q + 1) (by simp; omega) (by omega))
  · rcases k5 with ⟨b1, b2, b3, b4⟩ | ⟨b1, b2, b3⟩
    · obtain ⟨x, rfl⟩ : ∃ x, q2 = x + 1 := ⟨q2 - 1, by omega⟩
      have hx : x < Ls.length := by simpa using b1
      exact absurd b3 (e1 x hx)
    · rw [b2, List.length_cons, ← e2] at k1
      rw [b3, List.cons_append] at k6
      rw [e3] at a7
      refine ⟨q, c', b', m', Ls ++ [l2], a1, k1, by simp; omega, a2, a3, a4, k2, ⟨k6, a7, fun y hy => ?_, fun i j hj hi => ?_⟩, Or.inr ⟨l2, rfl⟩⟩
      · rcases List.mem_append.mp hy with z | z
        · exact h.2.2.1 y z
        · rw [List.mem_singleton.mp z]; exact hgl
      · rw [List.length_append, List.length_singleton] at hj
        have f1 : (Ls ++ [l2])[i]'(by simp; omega) = Ls[i]'(by omega) := List.getElem_append_left (by omega)
        rw [f1]
        by_cases z : j < Ls.length
        · rw [List.getElem_append_left z]; exact h.2.2.2 i j z hi
        · rw [List.getElem_append_right (by omega)]
          simp only [List.getElem_singleton]
          exact e1 i (by omega)
