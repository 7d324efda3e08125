/-! rights of a grant, of a limit, in step -/
theorem nI_s1 (o : Nat) : nI (o + 1) - 1 = nI o := nI_pred o
theorem c_setRight {n : Nat} {c : cd_S} {i : Nat} (hn : 100 ≤ n) (hi : i < 160) : ∃ d, f_X3_setRight n c (nI i) 193 = some (0, d) ∧ Rfr c d (8 + i) ∧ cI d 162 (8 + i) = cI c 162 193 ∧ cI d 163 (8 + i) = cI c 163 193 ∧ cJ d 160 (8 + i) = cJ c 160 193 ∧ ∀ x, x < 5 → cLr d 161 (8 + i) x = cLr c 161 193 x := by
  obtain ⟨d, e1, e2, e3, e4, e5, e6⟩ := c_take (n := n) (c := c) (r := 8 + i) (r2 := 193) hn (by omega)
  refine ⟨d, ?_, e2, e3, e4, e5, e6⟩
  unfold f_X3_setRight
  rw [if_neg (show ¬ nI i < 0 from nI_nn (by omega)), if_neg (show ¬ (160 : Int32) ≤ nI i from fun z => absurd ((nI_leI (a := 160) (by decide) (by omega)).mp z) (by omega)), c_ld97 hi, bs_some, e1, bs_some]
theorem c_addGR {n : Nat} {c : cd_S} {o z : Nat} (hn : 100 ≤ n) (ho : o < 8) (hz : z < 8) (h1 : cI c 106 0 = nI (o + 1)) (h2 : cAr c 98 0 o = nI z) : ∃ d, f_X3_addGrantRight n c 193 = some (0, cSA d 98 0 o (nI (z + 1))) ∧ Rfr c d (8 + (8 * o + z)) ∧ cI d 162 (8 + (8 * o + z)) = cI c 162 193 ∧ cI d 163 (8 + (8 * o + z)) = cI c 163 193 ∧ cJ d 160 (8 + (8 * o + z)) = cJ c 160 193 ∧ ∀ x, x < 5 → cLr d 161 (8 + (8 * o + z)) x = cLr c 161 193 x := by
  obtain ⟨d, e1, e2⟩ := c_setRight (n := n) (c := c) (i := 8 * o + z) hn (by omega)
  refine ⟨d, ?_, e2⟩
  unfold f_X3_addGrantRight
  rw [h1, nI_s1, if_neg (show ¬ nI o < 0 from nI_nn (by omega)), c_ld98 ho, bs_some, h2, if_neg (show ¬ (8 : Int32) ≤ nI z from fun y => absurd ((nI_leI (a := 8) (by decide) (by omega)).mp y) (by omega)), bs_some, show (8 : Int32) = nI 8 from rfl, nI_mul, nI_add, Nat.mul_comm, e1, bs_some]
  dsimp only
  rw [c_ld98 ho, bs_some, cd_frA e2.1.2 (by decide) (by decide), h2, nI_1, c_st98 ho, bs_some]
theorem c_addLR {n : Nat} {c : cd_S} {o z : Nat} (hn : 100 ≤ n) (ho : o < 12) (hz : z < 8) (h1 : cI c 107 0 = nI (o + 1)) (h2 : cAr c 99 0 o = nI z) : ∃ d, f_X3_addLimitRight n c 193 = some (0, cSA d 99 0 o (nI (z + 1))) ∧ Rfr c d (8 + (8 * (8 + o) + z)) ∧ cI d 162 (8 + (8 * (8 + o) + z)) = cI c 162 193 ∧ cI d 163 (8 + (8 * (8 + o) + z)) = cI c 163 193 ∧ cJ d 160 (8 + (8 * (8 + o) + z)) = cJ c 160 193 ∧ ∀ x, x < 5 → cLr d 161 (8 + (8 * (8 + o) + z)) x = cLr c 161 193 x := by
  obtain ⟨d, e1, e2⟩ := c_setRight (n := n) (c := c) (i := 8 * (8 + o) + z) hn (by omega)
  refine ⟨d, ?_, e2⟩
  unfold f_X3_addLimitRight
  rw [h1, nI_s1, if_neg (show ¬ nI o < 0 from nI_nn (by omega)), c_ld99 ho, bs_some, h2, if_neg (show ¬ (8 : Int32) ≤ nI z from fun y => absurd ((nI_leI (a := 8) (by decide) (by omega)).mp y) (by omega)), bs_some, show (8 : Int32) = nI 8 from rfl, show (64 : Int32) = nI 64 from rfl, nI_mul, nI_add, nI_add, show 64 + o * 8 + z = 8 * (8 + o) + z by omega, e1, bs_some]
  dsimp only
  rw [c_ld99 ho, bs_some, cd_frA e2.1.2 (by decide) (by decide), h2, nI_1, c_st99 ho, bs_some]
/-- what the class knows of the place for the next right: of grant o, or of limit o - 8 -/
def RS (c : cd_S) (fl : Int32) (o z : Nat) : Prop := (fl = 0 ∧ o < 8 ∧ cI c 106 0 = nI (o + 1) ∧ cAr c 98 0 o = nI z) ∨ (fl = 1 ∧ 8 ≤ o ∧ o < 20 ∧ cI c 107 0 = nI (o - 8 + 1) ∧ cAr c 99 0 (o - 8) = nI z)
def RFr (c c' : cd_S) (m m' : md_S) (fl : Int32) (o z : Nat) : Prop :=
  (∀ x, x ≠ 193 → x ≠ 8 + (8 * o + z) → cI c' 162 x = cI c 162 x ∧ cI c' 163 x = cI c 163 x ∧ cJ c' 160 x = cJ c 160 x ∧ ∀ i, cLr c' 161 x i = cLr c 161 x i) ∧ PX m m' (16 + (8 * o + z)) ∧ (∀ i, (fl = 0 → i ≠ o) → cAr c' 98 0 i = cAr c 98 0 i) ∧ (∀ i, (fl = 1 → i ≠ o - 8) → cAr c' 99 0 i = cAr c 99 0 i) ∧ (∀ i, i ≠ o → mA m' 23 i = mA m 23 i) ∧ (∀ i, i ≠ 8 * o + z → mL m' 24 i = mL m 24 i) ∧ cd_fr [98, 99, 160, 161, 162, 163, 327, 328, 329, 330] [] c c' ∧ md_fr [6, 7, 8, 9, 10, 11, 12, 13, 14, 15, 17, 18, 19, 23, 24] m m' ∧ mI m' 7 = mI m 7
def RightOk (B : Nat → Int32) (N : Nat) (c : cd_S) (m : md_S) (b : cd_B) (w : WD) (L : List WD) (fl : Int32) (o z : Nat) (_ : Int32) (c' : cd_S) (b' : cd_B) (_ : Int32) (m' : md_S) : Prop :=
  b' = b ∧ z < 8 ∧ wK w = 2 ∧ (∃ w1 w' L', L = w1 :: w' :: L' ∧ LX B N c' m' w' L') ∧ RtR c' m' o (z + 1) ∧ RS c' fl o (z + 1) ∧ RFr c c' m m' fl o z
theorem c_addR {n : Nat} {c : cd_S} {fl : Int32} {o z : Nat} (hn : 100 ≤ n) (hz : z < 8) (h : RS c fl o z) : ∃ d, (if fl = 0 then f_X3_addGrantRight n c 193 else f_X3_addLimitRight n c 193) = some (0, d) ∧ (∀ x, x ≠ 8 + (8 * o + z) → cI d 162 x = cI c 162 x ∧ cI d 163 x = cI c 163 x ∧ cJ d 160 x = cJ c 160 x ∧ ∀ i, cLr d 161 x i = cLr c 161 x i) ∧ cd_fr [98, 99, 160, 161, 162, 163] [] c d ∧ cI d 162 (8 + (8 * o + z)) = cI c 162 193 ∧ cI d 163 (8 + (8 * o + z)) = cI c 163 193 ∧ cJ d 160 (8 + (8 * o + z)) = cJ c 160 193 ∧ (∀ x, x < 5 → cLr d 161 (8 + (8 * o + z)) x = cLr c 161 193 x) ∧ RS d fl o (z + 1) ∧ (∀ i, (fl = 0 → i ≠ o) → cAr d 98 0 i = cAr c 98 0 i) ∧ (∀ i, (fl = 1 → i ≠ o - 8) → cAr d 99 0 i = cAr c 99 0 i) := by
  rcases h with ⟨rfl, h1, h2, h3⟩ | ⟨rfl, h0, h1, h2, h3⟩
  · obtain ⟨d, e1, e2, e3, e4, e5, e6⟩ := c_addGR (n := n) hn h1 hz h2 h3
    refine ⟨_, by rw [if_pos rfl]; exact e1, fun x hx => ?_, cd_fr_SA (cd_fr_mono e2.2 (by decide) (fun _ y => y)) (by decide) _ _ _, e3, e4, e5, e6, Or.inl ⟨rfl, h1, ?_, cA_SAe⟩, fun i hi => ?_, fun i _ => ?_⟩
    · exact e2.1 x hx
    · rw [cI_SA, cd_frI e2.2 (by decide) (by decide)]; exact h2
    · rw [cA_SAi (hi rfl), cd_frA e2.2 (by decide) (by decide)]
    · rw [cA_SAo (by decide), cd_frA e2.2 (by decide) (by decide)]
  · obtain ⟨l, rfl⟩ : ∃ l, o = 8 + l := ⟨o - 8, by omega⟩
    rw [Nat.add_sub_cancel_left] at h2 h3
    obtain ⟨d, e1, e2, e3, e4, e5, e6⟩ := c_addLR (n := n) hn (by omega) hz h2 h3
    refine ⟨_, by rw [if_neg (by decide)]; exact e1, fun x hx => ?_, cd_fr_SA (cd_fr_mono e2.2 (by decide) (fun _ y => y)) (by decide) _ _ _, e3, e4, e5, e6, Or.inr ⟨rfl, h0, h1, ?_, ?_⟩, fun i _ => ?_, fun i hi => ?_⟩
    · exact e2.1 x hx
    · rw [Nat.add_sub_cancel_left, cI_SA, cd_frI e2.2 (by decide) (by decide)]; exact h2
    · rw [Nat.add_sub_cancel_left, cA_SAe]
    · rw [cA_SAo (by decide), cd_frA e2.2 (by decide) (by decide)]
    · have hi := hi rfl
      rw [Nat.add_sub_cancel_left] at hi
      rw [cA_SAi hi, cd_frA e2.2 (by decide) (by decide)]
theorem right_ok {n : Nat} {C : Nat × Nat} {B : Nat → Int32} {N : Nat} {c0 c : cd_S} {m0 m : md_S} {b : cd_B} {w : WD} {L : List WD} {fl : Int32} {o z : Nat} (hC : BC C) (hn : 5000 ≤ n) (hc : CI C c0 b c b) (hm : MI m0 m) (h : LX B N c m w L) (hS : RS c fl o z) (hR : RtR c m o z) :
    OUT C c0 m0 b (f_X4_readRight n c b (nI z) fl) (f_X12_right n m (nI o)) (RightOk B N c m b w L fl o z) (fun c' b' => b' = b ∧ cd_fr [98, 99, 160, 161, 162, 163, 327, 328, 329, 330] [] c c') := by
  have ho : o < 20 := by rcases hS with h | h <;> omega
  have hz8 := hR.2.1
  have hfl : fl = 0 ∨ fl = 1 := by rcases hS with h | h <;> simp [h.1]
  unfold f_X4_readRight
  refine out_ck ?_
  unfold f_X12_right
  rcases m_isName (n := n) h with ⟨hk, hm1⟩ | ⟨hk, m1, hm1, hf1, hn1⟩
  · refine out_c (c_needName1 (h.k.1.trans hk)) ?_
    rw [hm1, bs_some]
    dsimp only
    rw [if_neg (show ¬ (1 : Int32) = 0 by decide), m_ld23 ho, bs_some, hR.1]
    unfold f_X4_readRight_J16
    by_cases hz : z = 8
    · rw [if_pos (show (8 : Int32) ≤ nI z by rw [hz]; decide), if_pos (show nI z = 8 by rw [hz]; rfl)]
      obtain ⟨c', b', e1, e2⟩ := c_room0 (n := n) hC hc.1 h.k.2.1
      obtain ⟨m', f1, f2, f3⟩ := m_failsW (n := n) (k := 4) h (by decide) (by decide)
      refine out_thr e1 e2 hc (ble.refl _) (x := 0) (m' := m') ?_ (hm.fr f2 (by decide)) f3
      rw [show f_X12_fails n m 4 = _ from f1, bs_some]
    · have hz7 : z < 8 := by omega
      rw [if_neg (show ¬ (8 : Int32) ≤ nI z from fun y => absurd ((nI_leI (a := 8) (by decide) (by omega)).mp y) (by omega)), if_neg (show ¬ nI z = 8 from fun y => hz ((nI_eq (b := 8) (by omega) (by decide)).mp y))]
      refine out_c c_room1 ?_
      dsimp only
      rw [bs_some, bs_some, show (8 : Int32) = nI 8 from rfl, show (16 : Int32) = nI 16 from rfl, nI_mul, nI_add, m_st24 (by omega), bs_some, nI_add, h.k.2.2]
      have hc1 : cd_fr [160] [] c (cSJ c 160 193 (wX w)) := cd_fr_SJ (cd_fr_refl _ _ _) (by decide) _ _
      have hm2 : md_fr [24] m (mSL m 24 (8 * o + z) (mJ m 12)) := md_fr_SL (md_fr_refl _ _) (by decide) _ _
      have h1 : LX B N (cSJ c 160 193 (wX w)) (mSL m 24 (8 * o + z) (mJ m 12)) w L := h.fr hc1 hm2 (by decide) (by decide) (by decide)
      obtain ⟨c2, m2, e1, e2, e3, e4, ⟨w1, L1, hL1, e5⟩, e6⟩ := adv_ok (n := n) hn h1 (by rw [hk]; decide)
      rw [e1, bs_some, e2, bs_some]
      dsimp only
      have fr2 : cd_fr [98, 99, 160, 161, 162, 163, 327, 328, 329, 330] [] c c2 := cd_fr_tr hc1 e3 (fun _ y => ⟨fun q => y (by simp at q; simp [q]), fun q => y (by simp at q; simp; omega)⟩) (fun _ y => ⟨y, y⟩)
      have gr2 : md_fr [6, 7, 8, 9, 10, 11, 12, 13, 14, 15, 17, 18, 19, 23, 24] m m2 := md_fr_tr hm2 e4 (fun _ y => ⟨fun q => y (by simp at q; simp [q]), fun q => y (by simp at q; simp; omega)⟩)
      have hCI2 : CI C c0 b c2 b := (hc.sj).fr e3 (by decide)
      have hMI2 : MI m0 m2 := (hm.fr hm2 (by decide)).fr e4 (by decide)
      -- the model behind a fault
      have hnf : ∀ (x : Int32) (m' : md_S) (k pl : Nat), MI m0 m' → NF m' k pl → ∃ x2 m3, (Option.bind (mldA m' 23 (nI o)) fun v7 => Option.bind (mstA m' 23 (nI o) (v7 + 1)) fun σ8 => some ((0 : Int32), σ8)) = some (x2, m3) ∧ MI m0 m3 ∧ NF m3 k pl := by
        intro x m' k pl a1 a2
        have hff : md_fr [23] m' (mSA m' 23 o (mA m' 23 o + 1)) := md_fr_SA (md_fr_refl _ _) (by decide) _ _
        exact ⟨0, _, by rw [m_ld23 ho, bs_some, m_st23 ho, bs_some], a1.fr hff (by decide), a2.fr hff (by decide) (by decide)⟩
      rcases e5 with e5 | ⟨hbw, hnf1⟩
      · have hkd : NR (wX w) (mJ m 12) := h.mw.2.2.2.2.2.1 hk
        refine out_seq (Ok1 := PatOk B N c2 m2 b L1 (16 + (8 * o + z)) 0) (Pn1 := fun c' b' => b' = b ∧ cd_fr [160, 161, 162, 163, 327, 328, 329, 330] [] c2 c') (pat_ok hC hn hCI2 hMI2 e5 (by omega) (by have := kB_le m0; omega) (Or.inl rfl)) ?_ ?_ (fun x m' k pl a1 a2 => hnf x m' k pl a1 a2)
        · rintro v c3 b3 x m3 hCI3 hMI3 ⟨rfl, ⟨w', L', hL', hLX⟩, p2, -, p4, p5, p6, p7, p8⟩
          dsimp only
          have hS3 : RS c3 fl o z := by
            rcases hS with ⟨q1, q2, q3, q4⟩ | ⟨q1, q2, q3, q4, q5⟩
            · exact Or.inl ⟨q1, q2, by rw [cd_frI p6 (by decide) (by decide), cd_frI e3 (by decide) (by decide)]; exact q3, by rw [cd_frA p6 (by decide) (by decide), cd_frA e3 (by decide) (by decide)]; exact q4⟩
            · exact Or.inr ⟨q1, q2, q3, by rw [cd_frI p6 (by decide) (by decide), cd_frI e3 (by decide) (by decide)]; exact q4, by rw [cd_frA p6 (by decide) (by decide), cd_frA e3 (by decide) (by decide)]; exact q5⟩
          obtain ⟨d, d1, d2, d3, d4, d5, d6, d7, d8, d9, d10⟩ := c_addR (n := n) (by omega) hz7 hS3
          have hkind3 : cJ c3 160 193 = wX w := by rw [p4.2, cd_frJ e3 (by decide) (by decide), cJ_SJe]
          have m23 : mA m3 23 o = nI z := by rw [md_frA p7 (by decide), md_frA e4 (by decide)]; exact hR.1
          refine ⟨0, mSA m3 23 o (nI (z + 1)), ?_, hMI3.fr (md_fr_SA (md_fr_refl _ [23]) (by decide) _ _) (by decide), Or.inl ⟨0, d, b3, ?_, ?_, rfl, hz7, hk, ⟨w1, w', L', by rw [hL1, hL'], ?_⟩, ?_, d8, ?_⟩⟩
          · rw [m_ld23 ho, bs_some, m23, nI_1, m_st23 ho, bs_some]
          · rcases hfl with rfl | rfl
            · rw [if_pos rfl] at d1 ⊢
              rw [d1, bs_some]
            · rw [if_neg (by decide)] at d1 ⊢
              rw [d1, bs_some]
          · exact hCI3.here.rx d3 (by decide) (fun x hx => d2 x (by omega))
          · exact hLX.fr d3 (md_fr_SA (md_fr_refl _ [23]) (by decide) _ _) (by decide) (by decide) (by decide)
          · refine ⟨mA_SAe, by omega, fun x hx => ?_⟩
            by_cases hxz : x = z
            · subst hxz
              refine ⟨?_, ?_⟩
              · obtain ⟨a, tl, r1, r2, r3, r4, r5, r6, r7⟩ := p2
                exact ⟨a, tl, r1, r2, d4.trans r3, d5.trans r4, by rw [mA_SAo (by decide)]; exact r5, by rw [mA_SAo (by decide)]; exact r6, fun i hi => by rw [d7 i (by omega), mL_SA]; exact r7 i hi⟩
              · rw [d6, hkind3, mL_SA, md_frL p7 (by decide), md_frL e4 (by decide), mL_SLe]; exact hkd
            · obtain ⟨r1, r2⟩ := hR.2.2 x (by omega)
              obtain ⟨y1, y2, y3, y4⟩ := d2 (8 + (8 * o + x)) (by omega)
              obtain ⟨z1, z2, z3, z4⟩ := p4.1 (8 + (8 * o + x)) (by omega)
              obtain ⟨v1, v2, v3⟩ := p5 (16 + (8 * o + x)) (by omega)
              refine ⟨?_, ?_⟩
              · obtain ⟨a, tl, r1, r2, r3, r4, r5, r6, r7⟩ := r1
                refine ⟨a, tl, r1, r2, ?_, ?_, ?_, ?_, fun i hi => ?_⟩
                · rw [y1, z1, cd_frI e3 (by decide) (by decide)]; exact r3
                · rw [y2, z2, cd_frI e3 (by decide) (by decide)]; exact r4
                · rw [mA_SAo (by decide), v1, md_frA e4 (by decide)]; exact r5
                · rw [mA_SAo (by decide), v2, md_frA e4 (by decide)]; exact r6
                · rw [y4, z4, cd_frL e3 (by decide) (by decide), mL_SA, v3 i (by omega), md_frL e4 (by decide), mL_SLo (by decide)]; exact r7 i hi
              · rw [y3, z3, cd_frJ e3 (by decide) (by decide), cJ_SJi (by omega), mL_SA, md_frL p7 (by decide), md_frL e4 (by decide), mL_SLi (by omega)]; exact r2
          · refine ⟨fun x h1 h2 => ?_, fun x hx => ?_, fun i hi => ?_, fun i hi => ?_, fun i hi => ?_, fun i hi => ?_, ?_, ?_, ?_⟩
            · obtain ⟨y1, y2, y3, y4⟩ := d2 x h2
              obtain ⟨z1, z2, z3, z4⟩ := p4.1 x h1
              exact ⟨by rw [y1, z1, cd_frI e3 (by decide) (by decide)]; rfl, by rw [y2, z2, cd_frI e3 (by decide) (by decide)]; rfl, by rw [y3, z3, cd_frJ e3 (by decide) (by decide), cJ_SJi h1], fun i => by rw [y4, z4, cd_frL e3 (by decide) (by decide)]; rfl⟩
            · obtain ⟨v1, v2, v3⟩ := p5 x hx
              exact ⟨by rw [mA_SAo (by decide), v1, md_frA e4 (by decide)]; rfl, by rw [mA_SAo (by decide), v2, md_frA e4 (by decide)]; rfl, fun i hi => by rw [mL_SA, v3 i hi, md_frL e4 (by decide), mL_SLo (by decide)]⟩
            · rw [d9 i hi, cd_frA p6 (by decide) (by decide), cd_frA e3 (by decide) (by decide)]; rfl
            · rw [d10 i hi, cd_frA p6 (by decide) (by decide), cd_frA e3 (by decide) (by decide)]; rfl
            · rw [mA_SAi hi, md_frA p7 (by decide), md_frA e4 (by decide)]; rfl
            · rw [mL_SA, md_frL p7 (by decide), md_frL e4 (by decide), mL_SLi hi]
            · exact cd_fr_tr (cd_fr_tr fr2 p6 (L3 := [98, 99, 160, 161, 162, 163, 327, 328, 329, 330]) (R3 := []) (fun _ y => ⟨y, fun q => y (by simp at q; simp; omega)⟩) (fun _ y => ⟨y, y⟩)) d3 (fun _ y => ⟨y, fun q => y (by simp at q; simp; omega)⟩) (fun _ y => ⟨y, y⟩)
            · exact md_fr_SA (md_fr_tr gr2 p7 (fun _ y => ⟨y, fun q => y (by simp at q; simp; omega)⟩)) (by decide) _ _
            · rw [mI_SA, p8, e6 e5.fine]; rfl
        · rintro v c3 b3 pl hCI3 hbw ⟨rfl, p6⟩
          dsimp only
          have hS3 : RS c3 fl o z := by
            rcases hS with ⟨q1, q2, q3, q4⟩ | ⟨q1, q2, q3, q4, q5⟩
            · exact Or.inl ⟨q1, q2, by rw [cd_frI p6 (by decide) (by decide), cd_frI e3 (by decide) (by decide)]; exact q3, by rw [cd_frA p6 (by decide) (by decide), cd_frA e3 (by decide) (by decide)]; exact q4⟩
            · exact Or.inr ⟨q1, q2, q3, by rw [cd_frI p6 (by decide) (by decide), cd_frI e3 (by decide) (by decide)]; exact q4, by rw [cd_frA p6 (by decide) (by decide), cd_frA e3 (by decide) (by decide)]; exact q5⟩
          obtain ⟨d, d1, d2, d3, -⟩ := c_addR (n := n) (by omega) hz7 hS3
          refine Or.inl ⟨0, d, b3, ?_, hCI3.here.rx d3 (by decide) (fun x hx => d2 x (by omega)), ⟨by rw [cd_frI d3 (by decide) (by decide)]; exact hbw.1, by rw [cd_frI d3 (by decide) (by decide)]; exact hbw.2⟩, rfl, ?_⟩
          · rcases hfl with rfl | rfl
            · rw [if_pos rfl] at d1 ⊢
              rw [d1, bs_some]
            · rw [if_neg (by decide)] at d1 ⊢
              rw [d1, bs_some]
          · exact cd_fr_tr (cd_fr_tr fr2 p6 (L3 := [98, 99, 160, 161, 162, 163, 327, 328, 329, 330]) (R3 := []) (fun _ y => ⟨y, fun q => y (by simp at q; simp; omega)⟩) (fun _ y => ⟨y, y⟩)) d3 (fun _ y => ⟨y, fun q => y (by simp at q; simp; omega)⟩) (fun _ y => ⟨y, y⟩)
      · obtain ⟨x2, m3, g1, g2, g3⟩ := hnf 0 m2 1 (wF w1) hMI2 hnf1
        refine ⟨x2, m3, ?_, g2, Or.inr (Or.inl ⟨wF w1, ?_, g3⟩)⟩
        · rw [nf_pattern hnf1, bs_some]; exact g1
        · exact op_seq (Pn1 := fun _ _ => False) (pat_bw hC hCI2 hbw) (fun v c' b' _ _ z => z.elim)
  · obtain ⟨c', b', e1, e2⟩ := c_needName0 (n := n) hC hc.1 h.k.2.1 (by rw [h.k.1]; exact hk)
    refine out_thr e1 e2 hc (ble.refl _) (x := 0) (m' := m1) ?_ (hm.fr hf1 (by decide)) hn1
    rw [hm1, bs_some]
    dsimp only
    rw [if_pos rfl]
