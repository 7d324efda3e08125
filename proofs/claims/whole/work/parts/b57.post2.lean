/-! postfixes, whole -/
theorem post_ok {n : Nat} {C : Nat × Nat} {B : Nat → Int32} {N : Nat} {P : Int32 → Prop} {rc : cd_R} {rm : md_R} {a : Int32} {dm kd : Nat} (hC : BC C) (hn : 5000 ≤ n) (hkd : kd ≤ 30) (hAt : EXw C B N P (fun c b => rc 16 0 a 0 c b) (fun m => rm 17 0 0 0 m) dm kd 3) (hM : MEM C B N (fun c b => rc 14 0 a 0 c b) (fun x m => rm 15 x 0 0 m) dm kd) (hA : ARG C B N (fun c b => rc 15 0 a 0 c b) (fun i m => rm 16 i 0 0 m) dm kd) : EXw C B N P (fun c b => f_X4_readPostfix n rc c b a) (fun m => f_X12_postfix n rm m) dm kd 3 := by
  intro c0 m0 c m b w L O mc k kl hc hm h hP hs h63 hkl
  dsimp only
  obtain ⟨q, hq⟩ : ∃ q, n = q + 2 := ⟨n - 2, by omega⟩
  unfold f_X4_readPostfix f_X12_postfix
  refine out_ck ?_
  refine out_seq (hAt c0 m0 c m b w L O mc k kl hc hm h hP hs h63 hkl) ?_ ?_ ?_
  · intro v c1 b1 x m1 hc1 hm1 hE
    dsimp only
    obtain ⟨w1, L1, hX, hl⟩ := hE.1
    have hloop := postL (n := n) hC hn hkd hM hA (c0 := c0) (m0 := m0) (L := L) (k := k) (kl := kl) hs h63 hkl 1280 q q 0 c1 b1 m1 v x w1 L1 hX.len (by omega) (by omega) (by omega) hc1.here hm1 hX hl hE
    rw [← hq] at hloop
    refine out_loopx (T := TP) (M := MA) (cs := fun r => r.1) (bd := fun r => r.2.1) (ms := msA) hloop ?_ ?_ ?_
    · rintro ⟨c3, b3, v3, u3⟩ y' hc3 hm3 ⟨x', mm, rfl, hE3⟩
      dsimp only at hc3 hm3 hE3 ⊢
      exact ⟨x', mm, rfl, hm3, Or.inl ⟨0, c3, b3, rfl, hc3.here, hE3⟩⟩
    · rintro ⟨c3, b3, v3, u3⟩ pl hc3 hbw hcs
      dsimp only at hc3 hbw hcs ⊢
      exact Or.inl ⟨0, c3, b3, rfl, hc3.here, hbw, hcs⟩
    · intro y' k2 pl h1 h2
      rcases y' with ⟨v3, q3⟩ | ⟨q3, v3, u3⟩
      · exact ⟨v3, q3, rfl, h1, h2⟩
      · exact ⟨v3, q3, rfl, h1, h2⟩
  · rintro v c1 b1 pl hc1 hbw hcs
    dsimp only
    obtain ⟨u, v2, e⟩ := bw_postL (n := n) (j := q) (rc := rc) (a := a) (b := b1) (l2 := 1) (l3 := 0) hbw
    have e' : f_X4_readPostfix_L9 n rc a n c1 b1 1 0 = some (Sum.inr (c1, b1, u, v2)) := by
      have e2 : f_X4_readPostfix_L9 n rc a (q + 2) c1 b1 1 0 = some (Sum.inr (c1, b1, u, v2)) := e
      rw [← hq] at e2; exact e2
    refine op_loopx (T := TP) (cs := fun r => r.1) (bd := fun r => r.2.1) (Pn1 := fun r => CS r.1 k ∧ cN c 66 ≤ cN r.1 66) (Or.inl ⟨_, e', hc1.here, hbw, hcs⟩) ?_
    rintro ⟨c3, b3, v3, u3⟩ hc3 hbw3 hcs3
    exact Or.inl ⟨0, c3, b3, rfl, hc3.here, hbw3, hcs3⟩
  · intro x m1 k2 pl h1 h2
    dsimp only
    have e : f_X12_postfix_L7 n rm n m1 x 1 = some (Sum.inr (m1, x, 1)) := by
      have e2 : f_X12_postfix_L7 n rm (q + 1 + 1) m1 x 1 = some (Sum.inr (m1, x, 1)) := nf_postL h2
      have hq' : q + 1 + 1 = n := hq.symm
      rw [hq'] at e2; exact e2
    rw [e, bs_some]
    exact ⟨x, m1, rfl, h1, h2⟩
