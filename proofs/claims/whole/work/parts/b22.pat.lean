/-! takePattern and pattern in step -/
/-- Rights but r stay, kinds all -/
def RX (c c' : cd_S) (r : Nat) : Prop := (∀ x, x ≠ r → cI c' 162 x = cI c 162 x ∧ cI c' 163 x = cI c 163 x ∧ cJ c' 160 x = cJ c 160 x ∧ ∀ i, cLr c' 161 x i = cLr c 161 x i) ∧ cJ c' 160 r = cJ c 160 r
/-- patterns but p stay -/
def PX (m m' : md_S) (p : Nat) : Prop := ∀ x, x ≠ p → mA m' 18 x = mA m 18 x ∧ mA m' 19 x = mA m 19 x ∧ ∀ i, i < 5 → mL m' 17 (5 * x + i) = mL m 17 (5 * x + i)
theorem kB_le (m0 : md_S) : kB m0 ≤ 16 := by unfold kB; omega
theorem MI.px {m0 m m' : md_S} {F : List Nat} {p : Nat} (h : MI m0 m) (hf : md_fr F m m') (hF : ∀ k, k ∈ F → k ∈ PMn) (hp : PX m m' p) (h8 : kB m0 ≤ p) (h20 : 20 ∉ F) (h9 : p < 264) : MI m0 m' := ⟨md_fr_tr h.1 hf (fun k hk => ⟨hk, fun y => hk (hF k y)⟩), h.2.tr ⟨fun x hx => hp x (by omega), fun _ => md_frI hf h20, fun x hx => hp x (by omega)⟩⟩
theorem RP.keepX {c d : cd_S} {m k : md_S} {r p r0 p0 : Nat} (h : RP c m r p) (hc : RX c d r0) (hm : PX m k p0) (hr : r ≠ r0) (hp : p ≠ p0) : RP d k r p := by
  obtain ⟨a, tl, a1, a2, a3, a4, a5, a6, a7⟩ := h
  obtain ⟨c1, c2, c3, c4⟩ := hc.1 r hr
  obtain ⟨m1, m2, m3⟩ := hm p hp
  exact ⟨a, tl, a1, a2, c1.trans a3, c2.trans a4, m1.trans a5, m2.trans a6, fun i hi => by rw [c4, m3 i (by omega)]; exact a7 i hi⟩
theorem Tok_cnt {B : Nat → Int32} {N ms p kept cnt : Nat} {k : Int32} {f q : Nat} {x : Int64} {PS Z : List Int64} (h : Tok B N ms p kept k f q x PS) (hk : k = 4) (hP : PS = lN cnt :: Z) (hc : cnt ≤ 5) (hms : ms ≤ 5) : cnt ≤ ms := by
  obtain ⟨h1, h2, t | t | t | t | t⟩ := h
  · rw [t.2.2.2.2] at hP; exact absurd hP (by simp)
  · rw [t.2.2.2.2.2] at hP; exact absurd hP (by simp)
  · rw [t.2.2.2.2.2] at hP; exact absurd hP (by simp)
  · obtain ⟨t1, t2, t3, t4, t5, t6⟩ := t
    rw [t6] at hP
    split at t5
    · rename_i z
      have e := lN_inj (by have := z.2.1; omega) (by omega) (List.cons.inj hP).1
      have := z.2.1
      omega
    · rw [hk] at t5; exact absurd t5 (by decide)
  · rw [t.2.2.2.2.2.2] at hP; exact absurd hP (by simp)
theorem lx_pat {B : Nat → Int32} {N : Nat} {c : cd_S} {m : md_S} {w : WD} {L : List WD} (h : LX B N c m w L) (hk : wK w = 4) : ∃ (kept cnt tl : Nat) (A Z codes : List Int64), cJ c 330 0 = lN kept ∧ rL c 1 = A ++ (lN cnt :: lN tl :: codes) ++ Z ∧ A.length = kept ∧ kept < 1000000 ∧ codes.length = cnt ∧ cnt ≤ 4 ∧ tl ≤ 2 ∧ mI m 14 = nI cnt ∧ mI m 15 = nI tl ∧ ∀ i, i < cnt → NR (codes.getD i 0) (mL m 13 i) := by
  have hk3 := h.k.2.2
  obtain ⟨cnt, tl, codes, v1, v2, v3, v4, v5, v6, v7⟩ := h.mw.2.2.2.2.2.2.2 hk
  obtain ⟨a1, a2, a3, a4, a5, a6, a7, a8, a9, a10, p, A, a11, ⟨t, rest⟩, a13⟩ := h
  refine ⟨A.length, cnt, tl, A, L.flatMap wP, codes, ?_, ?_, rfl, ?_, v2, Tok_cnt t hk v1 v3 (by decide), v4, v5, v6, v7⟩
  · rw [hk3, (Tok_kind t).2 hk]
  · rw [a13, List.flatMap_cons, v1, List.append_assoc]
  · have := a4.szlt
    rw [← rL_len, a13] at this
    simp at this
    omega
theorem c_hasTail {n : Nat} {B : Nat → Int32} {N : Nat} {c : cd_S} {m : md_S} {w : WD} {L : List WD} (h : LX B N c m w L) (hk : wK w = 4) : f_X10_hasTail n c = some (if mI m 15 = 0 then 0 else 1, c) := by
  obtain ⟨kept, cnt, tl, A, Z, codes, hx, hL, hA, hk6, hc, hc5, ht, h14, h15, hN⟩ := lx_pat h hk
  have gt : (rL c 1).getD (kept + 1) 0 = lN tl := by
    rw [hL, List.append_assoc, List.getD_eq_getElem?_getD, List.getElem?_append_right (by omega), hA, Nat.add_sub_cancel_left]; rfl
  unfold f_X10_hasTail
  rw [h.k.1, if_pos hk, hx, lN_i, nI_1, c_atL h.2.2.2.1 (by omega), bs_some, gt, lN_i, h15]
  dsimp only
  by_cases z : tl = 0
  · rw [if_pos (show nI tl = 0 by rw [z]; rfl), if_pos (show nI tl = 0 by rw [z]; rfl)]
  · rw [if_neg (show ¬ nI tl = 0 from fun y => z ((nI_eq (b := 0) (by omega) (by decide)).mp y)), if_neg (show ¬ nI tl = 0 from fun y => z ((nI_eq (b := 0) (by omega) (by decide)).mp y))]
/-- what both have when a pattern was taken -/
def PatOk (B : Nat → Int32) (N : Nat) (c : cd_S) (m : md_S) (b : cd_B) (L : List WD) (p : Nat) (pl : Int32) (_ : Int32) (c' : cd_S) (b' : cd_B) (_ : Int32) (m' : md_S) : Prop :=
  b' = b ∧ (∃ w' L', L = w' :: L' ∧ LX B N c' m' w' L') ∧ RP c' m' 193 p ∧ ((pl = 1 → cI c' 163 193 = 0) ∧ ∃ a, a ≤ 4 ∧ cI c' 162 193 = nI a) ∧ RX c c' 193 ∧ PX m m' p ∧ cd_fr [160, 161, 162, 163, 327, 328, 329, 330] [] c c' ∧ md_fr [6, 7, 8, 9, 10, 11, 12, 13, 14, 15, 17, 18, 19] m m' ∧ mI m' 7 = mI m 7
theorem pat_ok {n : Nat} {C : Nat × Nat} {B : Nat → Int32} {N : Nat} {c0 c : cd_S} {m0 m : md_S} {b : cd_B} {w : WD} {L : List WD} {p : Nat} {pl : Int32} (hC : BC C) (hn : 5000 ≤ n) (hc : CI C c0 b c b) (hm : MI m0 m) (h : LX B N c m w L) (hp : p < 264) (hp8 : kB m0 ≤ p) (hpl : pl = 0 ∨ pl = 1) :
    OUT C c0 m0 b (f_X4_takePattern n c b pl) (f_X12_pattern n m (nI p) pl) (PatOk B N c m b L p pl) (fun c' b' => b' = b ∧ cd_fr [160, 161, 162, 163, 327, 328, 329, 330] [] c c') := by
  have hfine := h.fine
  have hw := h.mw
  have hz : ∀ k ∈ vks, (mWd k = 4 ↔ k = 4) := by decide
  have hz := hz _ hw.1
  unfold f_X4_takePattern
  refine out_ck ?_
  rw [h.k.1]
  by_cases hk : wK w = 4
  · rw [if_pos hk]
    obtain ⟨kept, cnt, tl, A, Z, codes, hx, hL, hA, hk6, hcl, hc4, ht, h14, h15, hNR⟩ := lx_pat h hk
    have hc5 : cnt ≤ 5 := by omega
    have good : (pl = 1 → mI m 15 = 0) → OUT C c0 m0 b (f_X4_takePattern_J46 n c b) (f_X12_pattern_J42 n m (nI p)) (PatOk B N c m b L p pl) (fun c' b' => b' = b ∧ cd_fr [160, 161, 162, 163, 327, 328, 329, 330] [] c c') := by
      intro hpt
      obtain ⟨c1, s1, s2, s3, s4, s5, s6⟩ := c_copy (n := n) (r := 193) (by omega) h.2.2.2.1 hx hL hA hk6 hcl hc5 ht
      obtain ⟨m1, k1, k2, k3, k4, k5⟩ := m_keep (n := n) (p := p) (by omega) (by omega) h14 hc5 h15
      have h1 : LX B N c1 m1 w L := h.fr s2.2 k2.2 (by decide) (by decide) (by decide)
      obtain ⟨c2, m2, e1, e2, e3, e4, e5, e6⟩ := adv_ok (n := n) hn h1 (by rw [hk]; decide)
      have frc : cd_fr [160, 161, 162, 163, 327, 328, 329, 330] [] c c2 := cd_fr_tr s2.2 e3 (fun _ z => ⟨fun y => z (by simp at y; simp; omega), fun y => z (by simp at y; simp; omega)⟩) (fun _ z => ⟨z, z⟩)
      have frm : md_fr [6, 7, 8, 9, 10, 11, 12, 13, 14, 15, 17, 18, 19] m m2 := md_fr_tr k2.2 e4 (fun _ z => ⟨fun y => z (by simp at y; simp; omega), fun y => z (by simp at y; simp; omega)⟩)
      have hfc : f_X4_takePattern_J46 n c b = some (Sum.inl (0, c2, b)) := by
        unfold f_X4_takePattern_J46
        rw [s1, bs_some]
        dsimp only
        rw [e1, bs_some]
      have hfm : f_X12_pattern_J42 n m (nI p) = some (0, m2) := by
        unfold f_X12_pattern_J42
        rw [k1, bs_some]
        dsimp only
        rw [e2, bs_some]
      have hMI : MI m0 m2 := hm.px frm (by decide) (p := p) (fun x hx => by
        obtain ⟨y1, y2, y3⟩ := k2.1 x hx
        exact ⟨(md_frA e4 (by decide) _).trans y1, (md_frA e4 (by decide) _).trans y2, fun i hi => (md_frL e4 (by decide) _).trans (y3 i hi)⟩) hp8 (by decide) hp
      have hCI : CI C c0 b c2 b := hc.rx frc (by decide) (fun x hx => by
        obtain ⟨y1, y2, y3, y4⟩ := s2.1 x (by omega)
        exact ⟨(cd_frI e3 (by decide) (by decide) _).trans y1, (cd_frI e3 (by decide) (by decide) _).trans y2, (cd_frJ e3 (by decide) (by decide) _).trans y3, fun i => (cd_frL e3 (by decide) (by decide) _ _).trans (y4 i)⟩)
      refine ⟨0, m2, hfm, hMI, ?_⟩
      obtain ⟨w', L', hLe, hAD | ⟨hbw, hnf⟩⟩ := e5
      · left
        refine ⟨0, c2, b, hfc, hCI, rfl, ⟨w', L', hLe, hAD⟩, ?_, ⟨fun z => ?_, cnt, hc4, by rw [cd_frI e3 (by decide) (by decide)]; exact s3⟩, ⟨fun x hx => ?_, ?_⟩, fun x hx => ?_, frc, frm, ?_⟩
        · refine ⟨cnt, tl, hc5, ht, ?_, ?_, ?_, ?_, fun i hi => ?_⟩
          · rw [cd_frI e3 (by decide) (by decide)]; exact s3
          · rw [cd_frI e3 (by decide) (by decide)]; exact s4
          · rw [md_frA e4 (by decide)]; exact k3
          · rw [md_frA e4 (by decide)]; exact k4
          · rw [cd_frL e3 (by decide) (by decide), md_frL e4 (by decide), s6 i hi, k5 i hi]; exact hNR i hi
        · rw [cd_frI e3 (by decide) (by decide), s4, ← h15]; exact hpt z
        · obtain ⟨y1, y2, y3, y4⟩ := s2.1 x hx
          exact ⟨(cd_frI e3 (by decide) (by decide) _).trans y1, (cd_frI e3 (by decide) (by decide) _).trans y2, (cd_frJ e3 (by decide) (by decide) _).trans y3, fun i => (cd_frL e3 (by decide) (by decide) _ _).trans (y4 i)⟩
        · rw [cd_frJ e3 (by decide) (by decide), s5]
        · obtain ⟨y1, y2, y3⟩ := k2.1 x hx
          exact ⟨(md_frA e4 (by decide) _).trans y1, (md_frA e4 (by decide) _).trans y2, fun i hi => (md_frL e4 (by decide) _).trans (y3 i hi)⟩
        · rw [e6 hAD.fine, md_frI k2.2 (by decide)]
      · right; left
        exact ⟨wF w', Or.inl ⟨0, c2, b, hfc, hCI, hbw, rfl, frc⟩, hnf⟩
    have hmf : f_X12_pattern n m (nI p) pl = if pl = 0 then f_X12_pattern_J42 n m (nI p) else if mI m 15 = 0 then f_X12_pattern_J42 n m (nI p) else (Option.bind (f_X12_fails n m (5 : Int32)) fun p4 => some ((0 : Int32), p4.2)) := by
      unfold f_X12_pattern
      rw [m_fine, bs_some, if_pos hfine]
      dsimp only
      rw [if_neg (by decide), hw.2.1, if_pos (hz.mpr hk)]
    rw [hmf]
    unfold f_X4_takePattern_J17
    refine out_c c_need1 ?_
    dsimp only
    rcases hpl with rfl | rfl
    · rw [if_pos rfl, if_pos rfl]
      exact good (fun z => absurd z (by decide))
    · rw [if_neg (by decide), if_neg (by decide), c_hasTail h hk, bs_some]
      dsimp only
      by_cases htl : mI m 15 = 0
      · rw [if_pos htl, if_pos rfl, if_pos htl]
        exact good (fun _ => htl)
      · rw [if_neg htl, if_neg (by decide), if_neg htl]
        obtain ⟨c', b', e1, e2⟩ := c_refuse (n := n) (k := 5) (pl := wF w) hC hc.1
        obtain ⟨m', f1, f2, f3⟩ := m_failsW (n := n) (k := 5) h (by decide) (by decide)
        rw [h.k.2.1]
        refine out_thr (show f_X4_refuse n c b 5 (nI (wF w)) = _ from e1) e2 hc (ble.refl _) (x := 0) (m' := m') ?_ (hm.fr f2 (by decide)) f3
        rw [show f_X12_fails n m 5 = _ from f1, bs_some]
  · rw [if_neg hk]
    unfold f_X4_takePattern_J17
    obtain ⟨c', b', e1, e2⟩ := c_need0 (n := n) hC hc.1 h.k.2.1
    obtain ⟨m', f1, f2, f3⟩ := m_misfit (n := n) h
    refine out_thr e1 e2 hc (ble.refl _) (x := 0) (m' := m') ?_ (hm.fr f2 (by decide)) f3
    unfold f_X12_pattern
    rw [m_fine, bs_some, if_pos hfine]
    dsimp only
    rw [if_neg (by decide), hw.2.1, if_neg (fun z => hk (hz.mp z)), f1, bs_some]
/-- takePattern at what is no word -/
theorem pat_bw {n : Nat} {C : Nat × Nat} {c0 c : cd_S} {b : cd_B} {pl : Nat} {q : Int32} {Pn : cd_S → cd_B → Prop} (hC : BC C) (hc : CI C c0 b c b) (h : BW c pl) : OP C c0 b (f_X4_takePattern n c b q) pl Pn := by
  obtain ⟨c', b', e1, e2⟩ := c_need0 (n := n) hC hc.1 h.2
  unfold f_X4_takePattern
  refine op_ck ?_
  rw [h.1, if_neg (by decide)]
  unfold f_X4_takePattern_J17
  exact op_thr e1 e2 hc (ble.refl _)
theorem pass_bw {n : Nat} {C : Nat × Nat} {c0 c : cd_S} {b : cd_B} {pl : Nat} {k : Int32} {Pn : cd_S → cd_B → Prop} (hC : BC C) (hc : CI C c0 b c b) (h : BW c pl) (hk : k ≠ 1) : OP C c0 b (f_X4_pass n c b k) pl Pn := by
  obtain ⟨c', b', e1, e2⟩ := c_pass0 (n := n) (k := k) hC hc.1 h.2 (by rw [h.1]; exact fun z => hk z.symm)
  exact Or.inr ⟨c', b', e1, e2.tx hc⟩
theorem needName_bw {n : Nat} {C : Nat × Nat} {c0 c : cd_S} {b : cd_B} {pl : Nat} {Pn : cd_S → cd_B → Prop} (hC : BC C) (hc : CI C c0 b c b) (h : BW c pl) : OP C c0 b (f_X4_needName n c b) pl Pn := by
  obtain ⟨c', b', e1, e2⟩ := c_needName0 (n := n) hC hc.1 h.2 (by rw [h.1]; decide)
  exact Or.inr ⟨c', b', e1, e2.tx hc⟩
theorem need_bw {n : Nat} {C : Nat × Nat} {c0 c : cd_S} {b : cd_B} {pl : Nat} {Pn : cd_S → cd_B → Prop} (hC : BC C) (hc : CI C c0 b c b) (h : BW c pl) : OP C c0 b (f_X4_need n c b 0) pl Pn := by
  obtain ⟨c', b', e1, e2⟩ := c_need0 (n := n) hC hc.1 h.2
  exact Or.inr ⟨c', b', e1, e2.tx hc⟩
/-- pass and sign, as an outcome -/
theorem pass_out {n : Nat} {C : Nat × Nat} {B : Nat → Int32} {N : Nat} {c0 c : cd_S} {m0 m : md_S} {b : cd_B} {w : WD} {L : List WD} (hC : BC C) (hn : 5000 ≤ n) (hc : CI C c0 b c b) (hm : MI m0 m) (h : LX B N c m w L) {s sk : Int32} (hs : ∀ k, k ∈ vks → ((mWd k = 5 ∧ mVl k = s) ↔ k = sk)) (h0 : sk ≠ 0) :
    OUT C c0 m0 b (f_X4_pass n c b sk) (f_X12_sign n m s) (fun _ c' b' _ m' => b' = b ∧ wK w = sk ∧ (∃ w' L', L = w' :: L' ∧ LX B N c' m' w' L') ∧ cd_fr [327, 328, 329, 330] [] c c' ∧ md_fr [6, 7, 8, 9, 10, 11, 12, 13, 14, 15] m m' ∧ mI m' 7 = mI m 7) (fun c' b' => b' = b ∧ cd_fr [327, 328, 329, 330] [] c c') := by
  rcases pass_ok (n := n) hC hn hc.1 h hs h0 with ⟨hk, c', m', e1, e2, e3, e4, e5, e6⟩ | ⟨hk, c', b', m', e1, e2, e3, e4, e5⟩
  · refine ⟨0, m', e2, hm.fr e4 (by decide), ?_⟩
    obtain ⟨w', L', hLe, hAD | ⟨hbw, hnf⟩⟩ := e5
    · exact Or.inl ⟨0, c', b, e1, hc.fr e3 (by decide), rfl, hk, ⟨w', L', hLe, hAD⟩, e3, e4, e6 hAD.fine⟩
    · exact Or.inr (Or.inl ⟨wF w', Or.inl ⟨0, c', b, e1, hc.fr e3 (by decide), hbw, rfl, e3⟩, hnf⟩)
  · exact ⟨0, m', e2, hm.fr e4 (by decide), Or.inr (Or.inr ⟨c', b', 1, wF w, e1, e3.tx hc, e5⟩)⟩
theorem passK_out {n : Nat} {C : Nat × Nat} {B : Nat → Int32} {N : Nat} {c0 c : cd_S} {m0 m : md_S} {b : cd_B} {w : WD} {L : List WD} (hC : BC C) (hn : 5000 ≤ n) (hc : CI C c0 b c b) (hm : MI m0 m) (h : LX B N c m w L) {s sk : Int32} (hs : ∀ k, k ∈ vks → ((mWd k = 2 ∧ mVl k = s) ↔ k = sk)) (h0 : sk ≠ 0) :
    OUT C c0 m0 b (f_X4_pass n c b sk) (f_X12_key n m s) (fun _ c' b' _ m' => b' = b ∧ wK w = sk ∧ (∃ w' L', L = w' :: L' ∧ LX B N c' m' w' L') ∧ cd_fr [327, 328, 329, 330] [] c c' ∧ md_fr [6, 7, 8, 9, 10, 11, 12, 13, 14, 15] m m' ∧ mI m' 7 = mI m 7) (fun c' b' => b' = b ∧ cd_fr [327, 328, 329, 330] [] c c') := by
  rcases passK_ok (n := n) hC hn hc.1 h hs h0 with ⟨hk, c', m', e1, e2, e3, e4, e5, e6⟩ | ⟨hk, c', b', m', e1, e2, e3, e4, e5⟩
  · refine ⟨0, m', e2, hm.fr e4 (by decide), ?_⟩
    obtain ⟨w', L', hLe, hAD | ⟨hbw, hnf⟩⟩ := e5
    · exact Or.inl ⟨0, c', b, e1, hc.fr e3 (by decide), rfl, hk, ⟨w', L', hLe, hAD⟩, e3, e4, e6 hAD.fine⟩
    · exact Or.inr (Or.inl ⟨wF w', Or.inl ⟨0, c', b, e1, hc.fr e3 (by decide), hbw, rfl, e3⟩, hnf⟩)
  · exact ⟨0, m', e2, hm.fr e4 (by decide), Or.inr (Or.inr ⟨c', b', 1, wF w, e1, e3.tx hc, e5⟩)⟩
