/-! if in step -/
theorem c_lab {n : Nat} {c : cd_S} {u l : Nat} (h : cI c 302 u = nI l) : f_X9_addLabel n c u = some (nI l, cSI c 302 u (nI (l + 1))) := by
  unfold f_X9_addLabel
  rw [bs_some, cI_SIe, h, nI_1, nI_back]
/-- two labels, before any child -/
theorem BN.lab2 {c c' : cd_S} {m m' : md_S} {O : List Nat} {mc k kl i : Nat} {t x y : Int32} {lc0 : Nat} {pre : List EN} (h : BN c c' m m' O mc k kl i t x y lc0 lc0 lc0 [] [] [] pre) (hkl : kl + 2 ≤ 40) : BN c (cSI (cSI c' 302 (mN m 64) (nI (lc0 + 1))) 302 (mN m 64) (nI (lc0 + 2))) m m' O mc k (kl + 2) i t x y lc0 (lc0 + 2) (lc0 + 2) [] [] [] pre ∧ lc0 + 2 ≤ 1000 := by
  obtain ⟨a1, a2, a3, a4, a5, a6, a7, a8, a9, a10, a11, a12, a13⟩ := h
  have n64 := a2.n64
  obtain ⟨l, l1, l2, l3⟩ := a1.lab
  obtain ⟨q62, -⟩ := a1.nv
  rw [n64] at l1
  obtain rfl : l = lc0 := (nI_eq (by omega) (by omega)).mp (l1.symm.trans a10)
  have h1 : ST c' m' O mc k (kl + 2) := a1.debt (by omega) hkl (Nat.le_refl _)
  have h2 := ST.label (l := l + 1) h1 (by omega)
  have h3 := ST.label (l := l + 2) h2 (by omega)
  rw [n64] at h3
  refine ⟨⟨h3, a2.lab.lab, ⟨a3.1, a3.2.1, a3.2.2.1, a3.2.2.2.1, ⟨0, ⟨rfl, rfl, rfl⟩, fun k x hx => by simp at hx⟩, a3.2.2.2.2.2⟩, a4, a5, a6, a7, a8, a9, cI_SIe, by omega, by rw [rL_SI (by decide), rL_SI (by decide)]; exact a12, a13⟩, by omega⟩
theorem ky6 : ∀ k, k ∈ vks → ((mWd k = 2 ∧ mVl k = 6) ↔ k = 216) := by decide
theorem ky7 : ∀ k, k ∈ vks → ((mWd k = 2 ∧ mVl k = 7) ↔ k = 217) := by decide
theorem if_ok {n : Nat} {C : Nat × Nat} {B : Nat → Int32} {N : Nat} {rc : cd_R} {rm : md_R} {a : Int32} {dm kd : Nat} (hC : BC C) (hn : 5000 ≤ n) (hkd : kd ≤ 30) (hx : EX C B N (fun c b => rc 0 0 (a + 1) 0 c b) (fun m => rm 0 0 0 0 m) dm (kd + 1) 6) (hnx : NFX (fun m => rm 0 0 0 0 m)) (hbx : BWX C (fun c b => rc 0 0 (a + 1) 0 c b)) : EXw C B N (fun k => k = 215) (fun c b => f_X4_readIf n rc c b a) (fun m => f_X12_ifE n rm m) dm kd 3 := by
  intro c0 m0 c m b w L O mc k kl hc hm h hkw hs h63 hkl
  dsimp only at hkw ⊢
  unfold f_X4_readIf f_X12_ifE
  refine out_ck ?_
  rcases part_st (n := n) hC hc hm h hs with ⟨c', b', m', e1, e2, e3, e4, e5⟩ | ⟨c2, m2, e1, e2, hc2, hm2, h2, hs2, hg2, hp2, hb2, fc2, fm2⟩
  · refine out_thr e1 e3 hc (ble.refl _) (x := 0) (m' := m') ?_ e4 e5
    rw [e2, bs_some]
    rfl
  · refine out_c e1 ?_
    dsimp only
    rw [e2, bs_some]
    dsimp only
    rw [if_neg ne10]
    obtain ⟨i, lc0, hi, n1, hbn⟩ := BN.new (n := n) (t := 41) (x := 0) (y := 0) hs hs2 hg2 hp2 hb2 (cd_frI fc2 (by decide) (by decide) _) (rL_fr fc2 (by simp)) (mN_fr fm2 (by decide))
    obtain ⟨m3, hm3⟩ : ∃ m3, m3 = ndm m2 i 41 0 0 := ⟨_, rfl⟩
    rw [← hm3] at n1 hbn
    have f3 : md_fr [65, 66, 67, 68, 69, 70, 71, 72] m2 m3 := by rw [hm3]; exact ndm_fr _ _ _ _ _
    have hnow := hbn.1.now
    rw [hbn.2.1.n64] at hnow
    obtain ⟨w1, w2, w3, w4, w5, w6, w7, w8⟩ := hnow
    have hl0 : cI c2 302 (mN m 64) = nI lc0 := hbn.2.2.2.2.2.2.2.2.2.1
    obtain ⟨hbn4, hlc⟩ := hbn.lab2 (by omega)
    obtain ⟨c4, hc4⟩ : ∃ c4, c4 = cSI (cSI c2 302 (mN m 64) (nI (lc0 + 1))) 302 (mN m 64) (nI (lc0 + 2)) := ⟨_, rfl⟩
    rw [← hc4] at hbn4
    have fc4 : cd_fr [302] [] c2 c4 := by rw [hc4]; exact cd_fr_SI (cd_fr_SI (cd_fr_refl _ _ _) (by decide) (by decide) _ _) (by decide) (by decide) _ _
    have w4' : cd_dp (cSI c2 302 (mN m 64) (nI (lc0 + 1))) 136 0 = some (mN m 64) := w4
    rw [w4, bs_some, c_lab hl0, bs_some]
    dsimp only
    rw [w4', bs_some, c_lab cI_SIe, bs_some]
    dsimp only
    rw [show lc0 + 1 + 1 = lc0 + 2 from rfl, ← hc4, n1, bs_some]
    dsimp only
    have hX4 : LX B N c4 m3 w L := h2.fr fc4 f3 (by decide) (by decide) (by decide)
    obtain ⟨c5, m5, a1, a2, a3, a4, ⟨w', L', hL', a5⟩, a6⟩ := adv_ok (n := n) hn hX4 (by rw [hkw]; decide)
    have hc5 : CI C c0 b c5 b := (hc2.fr fc4 (by decide)).fr a3 (by decide)
    have hm5 : MI m0 m5 := (hm2.fr f3 (by decide)).fr a4 (by decide)
    rw [a1, bs_some, a2, bs_some]
    dsimp only
    -- the model behind a fault
    have nf1 : ∀ (q : md_S) (x : Int32) (k2 pl : Nat), MI m0 q → NF q k2 pl → ∃ x2 q2, (Option.bind (f_X12_gets n q (nI i) x) fun p11 => some (nI i, p11.2)) = some (x2, q2) ∧ MI m0 q2 ∧ NF q2 k2 pl := by
      intro q x k2 pl h1 h2
      rw [nf_gets h2, bs_some]
      exact ⟨_, _, rfl, h1, h2⟩
    have nf2 : ∀ (q : md_S) (k2 pl : Nat), MI m0 q → NF q k2 pl → ∃ x2 q2, (Option.bind (rm 0 0 0 0 q) fun p10 => Option.bind (f_X12_gets n p10.2 (nI i) (p10.1)) fun p11 => some (nI i, p11.2)) = some (x2, q2) ∧ MI m0 q2 ∧ NF q2 k2 pl := by
      intro q k2 pl h1 h2
      obtain ⟨x, q1, g1, g2, g3⟩ := hnx m0 q k2 pl h1 h2
      rw [show rm 0 0 0 0 q = _ from g1, bs_some]
      exact nf1 q1 x k2 pl g2 g3
    have nf3 : ∀ (q : md_S) (x : Int32) (k2 pl : Nat), MI m0 q → NF q k2 pl → ∃ x2 q2, (Option.bind (f_X12_gets n q (nI i) x) fun p8 => Option.bind (f_X12_key n p8.2 (7 : Int32)) fun p9 => Option.bind (rm 0 0 0 0 p9.2) fun p10 => Option.bind (f_X12_gets n p10.2 (nI i) (p10.1)) fun p11 => some (nI i, p11.2)) = some (x2, q2) ∧ MI m0 q2 ∧ NF q2 k2 pl := by
      intro q x k2 pl h1 h2
      rw [nf_gets h2, bs_some]
      dsimp only
      rw [nf_key h2, bs_some]
      exact nf2 q k2 pl h1 h2
    have nf4 : ∀ (q : md_S) (k2 pl : Nat), MI m0 q → NF q k2 pl → ∃ x2 q2, (Option.bind (rm 0 0 0 0 q) fun p7 => Option.bind (f_X12_gets n p7.2 (nI i) (p7.1)) fun p8 => Option.bind (f_X12_key n p8.2 (7 : Int32)) fun p9 => Option.bind (rm 0 0 0 0 p9.2) fun p10 => Option.bind (f_X12_gets n p10.2 (nI i) (p10.1)) fun p11 => some (nI i, p11.2)) = some (x2, q2) ∧ MI m0 q2 ∧ NF q2 k2 pl := by
      intro q k2 pl h1 h2
      obtain ⟨x, q1, g1, g2, g3⟩ := hnx m0 q k2 pl h1 h2
      rw [show rm 0 0 0 0 q = _ from g1, bs_some]
      exact nf3 q1 x k2 pl g2 g3
    have nf5 : ∀ (q : md_S) (x : Int32) (k2 pl : Nat), MI m0 q → NF q k2 pl → ∃ x2 q2, (Option.bind (f_X12_gets n q (nI i) x) fun p5 => Option.bind (f_X12_key n p5.2 (6 : Int32)) fun p6 => Option.bind (rm 0 0 0 0 p6.2) fun p7 => Option.bind (f_X12_gets n p7.2 (nI i) (p7.1)) fun p8 => Option.bind (f_X12_key n p8.2 (7 : Int32)) fun p9 => Option.bind (rm 0 0 0 0 p9.2) fun p10 => Option.bind (f_X12_gets n p10.2 (nI i) (p10.1)) fun p11 => some (nI i, p11.2)) = some (x2, q2) ∧ MI m0 q2 ∧ NF q2 k2 pl := by
      intro q x k2 pl h1 h2
      rw [nf_gets h2, bs_some]
      dsimp only
      rw [nf_key h2, bs_some]
      exact nf4 q k2 pl h1 h2
    rcases a5 with hX5 | ⟨hbw, hnf⟩
    · have hbn5 := hbn4.adv hs a3 a4 (a6 hX5.fine)
      have cn0 : cN c 66 = mN m 35 := hs.nv.2.2.2.2.2.1
      refine out_seq (hx c0 m0 c5 m5 b w' L' O mc (k + 6) (kl + 1) hc5 hm5 hX5 hbn5.1 (hbn5.2.1.n63.trans h63) (by omega)) ?_ ?_ (fun x q k2 pl h1 h2 => nf5 q x k2 pl h1 h2)
      · intro v6 c6 b6 x6 m6 hc6 hm6 hE6
        dsimp only
        obtain ⟨r1, es1, l1, nn1, m7, g1, hbn7, g3, hkp7, w7', L7, hX7, hl7⟩ := hbn5.read hn hs hE6 (by omega) (fun _ => by omega)
        obtain ⟨b7, d1, d2, d3, d4, d5, d6⟩ := BN.emit (n := n) (k := k + 5) (e1 := 18) (e2 := nI lc0) (e3 := 0) hC hc6 hbn7 hX7
        rw [d1, bs_some]
        refine out_em d2 d3 ?_
        dsimp only
        rw [g1, bs_some]
        dsimp only
        have hm7 : MI m0 m7 := hm6.fr g3 (by decide)
        refine out_seq (passK_out (s := 6) (sk := 216) hC hn d4 hm7 d6 ky6 (by decide)) ?_ ?_ (fun _ q k2 pl h1 h2 => nf4 q k2 pl h1 h2)
        · rintro v8 c8 b8 x8 m8 hc8 hm8 ⟨rfl, hk8, ⟨w8', L8, hL8, hX8⟩, fc8, fm8, s8⟩
          dsimp only
          have hbn8 := d5.adv hs fc8 fm8 s8
          refine out_seq (hx c0 m0 c8 m8 b8 w8' L8 O mc (k + 5) kl hc8.here hm8 hX8 hbn8.1 (hbn8.2.1.n63.trans h63) (by omega)) ?_ ?_ (fun x q k2 pl h1 h2 => nf3 q x k2 pl h1 h2)
          · intro v9 c9 b9 x9 m9 hc9 hm9 hE9
            dsimp only
            obtain ⟨r2, es2, l2, nn2, m10, g1', hbn10, g3', hkp10, w10, L10, hX10, hl10⟩ := hbn8.read hn hs hE9 (by omega) (fun _ => by omega)
            obtain ⟨b10, d1', d2', d3', d4', d5', d6'⟩ := BN.emit (n := n) (k := k + 4) (e1 := 17) (e2 := nI (lc0 + 1)) (e3 := 0) hC hc9 hbn10 hX10
            obtain ⟨b11, d1'', d2'', d3'', d4'', d5'', d6''⟩ := BN.emit (n := n) (k := k + 3) (e1 := 100) (e2 := nI lc0) (e3 := 0) hC d4' d5' d6'
            rw [d1', bs_some]
            refine out_em d2' d3' ?_
            dsimp only
            rw [d1'', bs_some]
            refine out_em d2'' d3'' ?_
            dsimp only
            rw [g1', bs_some]
            dsimp only
            have hm10 : MI m0 m10 := hm9.fr g3' (by decide)
            refine out_seq (passK_out (s := 7) (sk := 217) hC hn d4'' hm10 d6'' ky7 (by decide)) ?_ ?_ (fun _ q k2 pl h1 h2 => nf2 q k2 pl h1 h2)
            · rintro v12 c12 b12 x12 m12 hc12 hm12 ⟨rfl, hk12, ⟨w12, L12, hL12, hX12⟩, fc12, fm12, s12⟩
              dsimp only
              have hbn12 := d5''.adv hs fc12 fm12 s12
              refine out_seq (hx c0 m0 c12 m12 b12 w12 L12 O mc (k + 3) kl hc12.here hm12 hX12 (hbn12.1.debt (by omega) (by omega) (Nat.le_refl _)) (hbn12.2.1.n63.trans h63) (by omega)) ?_ ?_ (fun x q k2 pl h1 h2 => nf1 q x k2 pl h1 h2)
              · intro v13 c13 b13 x13 m13 hc13 hm13 hE13
                dsimp only
                obtain ⟨r3, es3, l3, nn3, m14, g1'', hbn14, g3'', hkp14, w14, L14, hX14, hl14⟩ := hbn12.read hn hs hE13 (by omega) (fun _ => by omega)
                obtain ⟨b15, t1, t2, t3, t4, t5, t6⟩ := BN.emit (n := n) (k := k + 2) (e1 := 100) (e2 := nI (lc0 + 1)) (e3 := 0) hC hc13 hbn14 hX14
                rw [t1, bs_some]
                refine out_em t2 t3 ?_
                dsimp only
                rw [g1'', bs_some]
                refine ⟨nI i, m14, rfl, hm13.fr g3'' (by decide), Or.inl ⟨0, _, b15, rfl, t4, ?_⟩⟩
                have h66 := t5.2.2.2.1
                refine (t5.debt (Nat.le_refl _) (by omega) (show k ≤ k + 2 by omega)).fin t6 ?_ rfl ?_ ?_ ?_
                · rw [hL']; rw [hL12] at hl10; rw [hL8] at hl7; simp at hl7 hl10 ⊢; omega
                · unfold um; rw [h66, if_neg (by decide)]
                · exact Or.inr (Or.inr (Or.inr (Or.inr (Or.inr (Or.inr (Or.inr (Or.inr (Or.inr (Or.inr (Or.inr (Or.inr (Or.inl ⟨h66, rfl, t5.2.2.2.2.1, t5.2.2.2.2.2.1⟩))))))))))))
                · unfold cmb
                  rw [h66, if_neg (by decide), if_pos rfl]
                  simp
              · rintro v13 c13 b13 pl hc13 hbw ⟨hcs, hle⟩
                dsimp only
                obtain ⟨u, b14, u1, u2, u3, u4, u5, u6, u7⟩ := CS.em (n := n) (k := k + 2) (x := 100) (y := nI (lc0 + 1)) (z := 0) hC hcs hc13
                rw [u2, bs_some]
                refine op_em u3 u4 ?_
                refine Or.inl ⟨0, _, b14, rfl, u5, hbw.em, u6.less (by omega), ?_⟩
                have := hbn12.1.nv.2.2.2.2.2.1
                have := hbn12.2.1.n35
                rw [u7]; omega
            · rintro v12 c12 b12 pl hc12 hbw ⟨rfl, fc12⟩
              dsimp only
              exact op_seq (Pn1 := fun _ _ => False) (hbx c0 c12 b12 pl hc12.here hbw) (fun _ _ _ _ _ y => y.elim)
          · rintro v9 c9 b9 pl hc9 hbw ⟨hcs, hle⟩
            dsimp only
            obtain ⟨u, b10, u1, u2, u3, u4, u5, u6, u7⟩ := CS.em (n := n) (k := k + 4) (x := 17) (y := nI (lc0 + 1)) (z := 0) hC hcs hc9
            obtain ⟨u', b11, u1', u2', u3', u4', u5', u6', u7'⟩ := CS.em (n := n) (k := k + 3) (x := 100) (y := nI lc0) (z := 0) hC u6 u5
            rw [u2, bs_some]
            refine op_em u3 u4 ?_
            dsimp only
            rw [u2', bs_some]
            refine op_em u3' u4' ?_
            dsimp only
            exact op_seq (Pn1 := fun _ _ => False) (pass_bw hC u5' hbw.em.em (by decide)) (fun _ _ _ _ _ y => y.elim)
        · rintro v8 c8 b8 pl hc8 hbw ⟨rfl, fc8⟩
          dsimp only
          exact op_seq (Pn1 := fun _ _ => False) (hbx c0 c8 b8 pl hc8.here hbw) (fun _ _ _ _ _ y => y.elim)
      · rintro v6 c6 b6 pl hc6 hbw ⟨hcs, hle⟩
        dsimp only
        obtain ⟨u, b7, u1, u2, u3, u4, u5, u6, u7⟩ := CS.em (n := n) (k := k + 5) (x := 18) (y := nI lc0) (z := 0) hC hcs hc6
        rw [u2, bs_some]
        refine op_em u3 u4 ?_
        dsimp only
        exact op_seq (Pn1 := fun _ _ => False) (pass_bw hC u5 hbw.em (by decide)) (fun _ _ _ _ _ y => y.elim)
    · obtain ⟨x2, q1, g1, g2, g3⟩ := hnx m0 m5 1 (wF w') hm5 hnf
      obtain ⟨x3, q3, y1, y2, y3⟩ := nf5 q1 x2 1 (wF w') g2 g3
      refine ⟨x3, q3, ?_, y2, Or.inr (Or.inl ⟨wF w', ?_, y3⟩)⟩
      · rw [show rm 0 0 0 0 m5 = _ from g1, bs_some]
        exact y1
      · exact op_seq (Pn1 := fun _ _ => False) (hbx c0 c5 b (wF w') hc5 hbw) (fun _ _ _ _ _ y => y.elim)
theorem nf_if {n : Nat} {rm : md_R} : NFX (fun m => f_X12_ifE n rm m) := by
  intro m0 m k pl hm h
  dsimp only
  obtain ⟨m', e1, e2, e3⟩ := nf_part (n := n) h
  unfold f_X12_ifE
  rw [e1, bs_some]
  exact ⟨0, m', rfl, hm.fr e2 (by decide), e3⟩
