/-! comparison in step -/
noncomputable def cmpM (n : Nat) (rm : md_R) (m : md_S) : Option (Int32 × md_S) := Option.bind (rm 3 0 0 0 m) fun p7 => Option.bind (f_X12_isSign n p7.2 (60 : Int32)) fun p8 => if p8.1 = 0 then (Option.bind (f_X12_isSign n p8.2 (257 : Int32)) fun p9 => if p9.1 = 0 then (some (p7.1, p9.2)) else (f_X12_wholeE_J64 n rm p9.2 (p7.1))) else (f_X12_wholeE_J64 n rm p8.2 (p7.1))
theorem sg60 : ∀ k, k ∈ vks → ((mWd k = 5 ∧ mVl k = 60) ↔ k = 60) := by decide
theorem sg257 : ∀ k, k ∈ vks → ((mWd k = 5 ∧ mVl k = 257) ↔ k = 201) := by decide
theorem WFN.op {q : md_S} {i : Nat} {t : Int32} (ht : t = 11 ∨ t = 12 ∨ t = 13 ∨ t = 14 ∨ t = 15) (h1 : mA q 66 i = t) (h2 : mA q 68 i = 0) (h3 : mA q 69 i = 0) : WFN q i 2 :=
  Or.inr (Or.inr (Or.inr (Or.inr (Or.inr (Or.inr (Or.inr (Or.inr (Or.inl ⟨by rw [h1]; exact ht, rfl, h2, h3⟩))))))))
theorem op_ne {t : Int32} (ht : t = 11 ∨ t = 12 ∨ t = 13 ∨ t = 14 ∨ t = 15) : t ≠ 40 ∧ t ≠ 41 ∧ t ≠ 19 ∧ t ≠ 42 ∧ t ≠ 2 ∧ t ≠ 9 ∧ t ≠ 10 := by
  rcases ht with rfl | rfl | rfl | rfl | rfl <;> decide
/-- the right side of a comparison -/
theorem cmp_r {n : Nat} {C : Nat × Nat} {B : Nat → Int32} {N : Nat} {rc : cd_R} {rm : md_R} {a t : Int32} {dm kd : Nat} (hC : BC C) (hn : 5000 ≤ n) (hkd : kd ≤ 30) (hx : EX C B N (fun c b => rc 6 0 a 0 c b) (fun m => rm 3 0 0 0 m) dm kd 1) (hnx : NFX (fun m => rm 3 0 0 0 m)) (hbx : BWX C (fun c b => rc 6 0 a 0 c b)) (ht : t = 11 ∨ t = 12 ∨ t = 13 ∨ t = 14 ∨ t = 15)
    {c0 c c1 : cd_S} {m0 m m1 : md_S} {b : cd_B} {v x : Int32} {w : WD} {L1 L : List WD} {O : List Nat} {mc k kl k0 kl0 : Nat} (hc : CI C c0 b c1 b) (hm : MI m0 m1) (hs0 : ST c m O mc k0 kl0) (h63 : mI m 63 = nI dm) (hkl : kl ≤ kd) (h : LX B N c1 m1 w L1) (hl : L1.length < L.length) (hk : wK w ≠ 0) (hE : EOk 1 B N c m O mc k kl L v c1 b x m1) :
    OUT C c0 m0 b (f_X4_readComparison_J49 n rc c1 b a t) (f_X12_wholeE_J81 n rm m1 x t) (EOk 0 B N c m O mc k kl L) (fun c' _ => CS c' k ∧ cN c 66 ≤ cN c' 66) := by
  obtain ⟨-, hs1, hg1, hp1, f, r, es, l0, l1, ns, rfl, y0, y1, yb0, yb1, ⟨hG, hW⟩, hb, h71, hL, hcv⟩ := hE
  unfold f_X4_readComparison_J49 f_X12_wholeE_J81
  obtain ⟨gl, hgl⟩ := ω2_l (a := 1) (b := 1) hW (Nat.le_refl _)
  rcases op_ok (n := n) (t := t) hC hn hc hm h hk hs0 hs1 (by omega) hg1 hG hb h71 hcv hgl with ⟨c', b', m', e1, e2, e3, e4, e5⟩ | ⟨c2, c3, m5, i, w', L', e1, e2, e3, hL', hi9, hCI3, hMI5, hcn, hcs3, hcase⟩
  · obtain ⟨x2, m2, g1, g2, g3⟩ := hnx m0 m' 4 (wF w) e4 e5
    refine out_thr e1 e3 hc (ble.refl _) (x := 0) (m' := m2) ?_ g2 g3
    rw [e2, bs_some]
    dsimp only
    rw [show rm 3 0 0 0 m' = _ from g1, bs_some]
    dsimp only
    rw [nf_gets g3, bs_some]
  · refine out_c e1 ?_
    dsimp only
    rw [e2, bs_some, e3, bs_some]
    dsimp only
    rcases hcase with ⟨hX, hpt, k66, k68, k69, hs5, hg5, hp5, hL5, hl5, hcv5⟩ | ⟨hbw, hnf⟩
    · refine out_seq (hx c0 m0 c3 m5 b w' L' O mc (k + 6) kl hCI3 hMI5 hX (hs5.debt (by omega) (by omega) (Nat.le_refl _)) (hg5.n63.trans h63) hkl) ?_ ?_ ?_
      · intro v2 c6 b6 x2 m6 hc6 hm6 hE6
        dsimp only
        obtain ⟨b7, m7, d1, d2, d3, d4, d5, d6, d7, -⟩ := last_ok (n := n) (t := t) (a := 0) (bb := 0) (L := L) (L3 := L') hC hn hc6 hm6 hs0 (op_ne ht) hpt k66 k68 k69 (fun q q1 q2 q3 _ => WFN.op ht q1 q2 q3) hs5 hg5 y0 (hl5.trans y1) yb0 yb1 (by rw [hL5, hL]; simp) (by omega) (by rw [hL'] at hl; simp at hl; omega) hcv5 (ω2_c (by omega)).1 (ω2_c (by omega)).2 (ω2_f (pwr := 0) (by omega) (by omega) (by omega) (by omega)) (by omega) hE6
        rw [d1, bs_some]
        refine out_em d2 d4 ?_
        dsimp only
        rw [d3, bs_some]
        exact ⟨nI i, m7, rfl, d6, Or.inl ⟨0, _, b7, rfl, d5, d7⟩⟩
      · rintro v2 c6 b6 pl hc6 hbw ⟨hcs, hle⟩
        dsimp only
        obtain ⟨u, b7, u1, u2, u3, u4, u5, u6, u7⟩ := CS.em (n := n) (k := k + 5) (x := t) (y := 0) (z := 0) hC hcs hc6
        rw [u2, bs_some]
        refine op_em u3 u4 ?_
        exact Or.inl ⟨0, _, b7, rfl, u5, hbw.em, u6.less (by omega), by rw [u7]; omega⟩
      · intro x2 m6 k2 pl h1 h2
        dsimp only
        rw [nf_gets h2, bs_some]
        exact ⟨nI i, m6, rfl, h1, h2⟩
    · obtain ⟨x2, m2, g1, g2, g3⟩ := hnx m0 m5 1 (wF w') hMI5 hnf
      refine ⟨nI i, m2, ?_, g2, Or.inr (Or.inl ⟨wF w', ?_, g3⟩)⟩
      · rw [show rm 3 0 0 0 m5 = _ from g1, bs_some]
        dsimp only
        rw [nf_gets g3, bs_some]
      · exact op_seq (Pn1 := fun _ _ => False) (hbx c0 c3 b (wF w') hCI3 hbw) (fun _ _ _ _ _ y => y.elim)
theorem cmp_ok {n : Nat} {C : Nat × Nat} {B : Nat → Int32} {N : Nat} {rc : cd_R} {rm : md_R} {a : Int32} {dm kd : Nat} (hC : BC C) (hn : 5000 ≤ n) (hkd : kd ≤ 30) (hx : EX C B N (fun c b => rc 6 0 a 0 c b) (fun m => rm 3 0 0 0 m) dm kd 1) (hnx : NFX (fun m => rm 3 0 0 0 m)) (hbx : BWX C (fun c b => rc 6 0 a 0 c b)) : EX C B N (fun c b => f_X4_readComparison n rc c b a) (cmpM n rm) dm kd 0 := by
  intro c0 m0 c m b w L O mc k kl hc hm h hs h63 hkl
  dsimp only
  unfold f_X4_readComparison cmpM
  refine out_ck ?_
  refine out_seq (hx c0 m0 c m b w L O mc k kl hc hm h hs h63 hkl) ?_ ?_ ?_
  · intro v c1 b1 x m1 hc1 hm1 hE
    dsimp only
    obtain ⟨w1, L1, hX, hl⟩ := hE.1
    rw [hX.k.1, m_isSign hX.fine hX.mw sg60, bs_some]
    dsimp only
    have hJ : ∀ t, (t = 14 ∨ t = 15) → wK w1 ≠ 0 → OUT C c0 m0 b1 (f_X4_readComparison_J49 n rc c1 b1 a t) (f_X12_wholeE_J81 n rm m1 x t) (EOk 0 B N c m O mc k kl L) (fun c' _ => CS c' k ∧ cN c 66 ≤ cN c' 66) := fun t ht hk => cmp_r hC hn hkd hx hnx hbx (by rcases ht with rfl | rfl <;> decide) hc1.here hm1 hs h63 hkl hX hl hk hE
    by_cases h60 : wK w1 = 60
    · rw [if_pos h60, if_pos h60, if_neg ne10]
      unfold f_X4_readComparison_J30 f_X12_wholeE_J64
      have hv : mI m1 11 = 60 := by rw [hX.mw.2.2.1 (Or.inr (by rw [h60]; decide)), h60]; decide
      rw [hX.k.1, if_pos h60, if_pos hv]
      exact hJ 14 (Or.inl rfl) (by rw [h60]; decide)
    · rw [if_neg h60, if_neg h60, if_pos rfl, m_isSign hX.fine hX.mw sg257, bs_some]
      dsimp only
      by_cases h2 : wK w1 = 201
      · rw [if_pos h2, if_pos h2, if_neg ne10]
        unfold f_X4_readComparison_J30 f_X12_wholeE_J64
        have hv : mI m1 11 = 257 := by rw [hX.mw.2.2.1 (Or.inr (by rw [h2]; decide)), h2]; decide
        rw [hX.k.1, if_neg h60, hv, if_neg (show ¬ (257 : Int32) = 60 by decide)]
        exact hJ 15 (Or.inr rfl) (by rw [h2]; decide)
      · rw [if_neg h2, if_neg h2, if_pos rfl]
        exact ⟨x, m1, rfl, hm1, Or.inl ⟨0, c1, b1, rfl, hc1.here, hE.wk (by omega)⟩⟩
  · rintro v c1 b1 pl hc1 hbw hcs
    dsimp only
    rw [hbw.1, if_neg (show ¬ (1 : Int32) = 60 by decide), if_neg (show ¬ (1 : Int32) = 201 by decide)]
    exact Or.inl ⟨0, c1, b1, rfl, hc1.here, hbw, hcs⟩
  · intro x m1 k2 pl h1 h2
    dsimp only
    rw [nf_isSign h2, bs_some]
    dsimp only
    rw [if_pos rfl, nf_isSign h2, bs_some]
    dsimp only
    rw [if_pos rfl]
    exact ⟨x, m1, rfl, h1, h2⟩
