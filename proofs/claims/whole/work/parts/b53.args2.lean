/-! arguments, whole -/
theorem nf_args {n : Nat} {rm : md_R} {a1 : Int32} (hn : 1 ≤ n) : NFX (fun m => f_X12_arguments n rm m a1) := by
  intro m0 m k pl hm h
  dsimp only
  obtain ⟨q, hq⟩ : ∃ q, n = q + 1 := ⟨n - 1, by omega⟩
  have hl : f_X12_arguments_L25 n rm a1 n m 0 1 = some (Sum.inr (m, 0, 1)) := by
    have : f_X12_arguments_L25 n rm a1 (q + 1) m 0 1 = some (Sum.inr (m, 0, 1)) := by
      rw [u_X12_arguments_L25, if_neg ne10, nf_isFine h, bs_some]; rfl
    rw [← hq] at this; exact this
  unfold f_X12_arguments
  rw [nf_sign h, bs_some]
  dsimp only
  rw [nf_isSign h, bs_some]
  dsimp only
  rw [if_pos rfl, hl, bs_some]
  dsimp only [Sum.elim]
  rw [nf_sign h, bs_some]
  exact ⟨_, _, rfl, hm, h⟩
def AOk (B : Nat → Int32) (N : Nat) (c : cd_S) (m : md_S) (O : List Nat) (mc k kl i : Nat) (t x y : Int32) (lc0 l0 : Nat) (ch : List Nat) (ess : List (List EN)) (ns : List Nat) (pre : List EN) (L : List WD) (m1 : md_S) (v : Int32) (c' : cd_S) (_ : cd_B) (x' : Int32) (m' : md_S) : Prop :=
  KP m1 m' ∧ ∃ w' L' j l1 ch2 E ns2, v = nI j ∧ x' = nI j ∧ j ≤ 3 ∧ LX B N c' m' w' L' ∧ L'.length < L.length ∧ ch2.length = j ∧ BN c c' m m' O mc k kl i t x y lc0 l0 l1 (ch ++ ch2) (ess ++ E) (ns ++ ns2) (pre ++ E.flatten)
theorem args_ok {n : Nat} {C : Nat × Nat} {B : Nat → Int32} {N : Nat} {rc : cd_R} {rm : md_R} {a : Int32} {dm kd : Nat} (hC : BC C) (hn : 5000 ≤ n) (hkd : kd ≤ 30) (hx : EX C B N (fun c b => rc 0 0 (a + 1) 0 c b) (fun m => rm 0 0 0 0 m) dm kd 6) (hnx : NFX (fun m => rm 0 0 0 0 m)) (hne : NEX B N (fun m => rm 0 0 0 0 m))
    {c0 c c1 : cd_S} {m0 m m1 : md_S} {b : cd_B} {w : WD} {L : List WD} {O : List Nat} {mc k kl k0 kl0 i l1 : Nat} {t x y : Int32} {lc0 l0 : Nat} {ch : List Nat} {ess : List (List EN)} {ns : List Nat} {pre : List EN} (hs0 : ST c m O mc k0 kl0) (h63 : mI m 63 = nI dm) (hkl : kl ≤ kd) (hc : CI C c0 b c1 b) (hm : MI m0 m1) (h : LX B N c1 m1 w L) (hkw : wK w = 40) (hbn : BN c c1 m m1 O mc k kl i t x y lc0 l0 l1 ch ess ns pre) :
    OUT C c0 m0 b (f_X4_readArguments n rc c1 b a) (f_X12_arguments n rm m1 (nI i)) (AOk B N c m O mc k kl i t x y lc0 l0 ch ess ns pre L m1) (fun c' _ => CS c' k ∧ cN c 66 ≤ cN c' 66) := by
  obtain ⟨q, hq⟩ : ∃ q, n = q + 1 := ⟨n - 1, by omega⟩
  have cn0 : cN c 66 = mN m 35 := hs0.nv.2.2.2.2.2.1
  unfold f_X4_readArguments f_X12_arguments
  refine out_ck ?_
  obtain ⟨c2, m2, a1, a2, a3, a4, ⟨w2, L2, hL2, a5⟩, a6⟩ := adv_ok (n := n) hn h (by rw [hkw]; decide)
  have hsign : f_X12_sign n m1 40 = some (0, m2) := by
    unfold f_X12_sign
    rw [m_isSign h.fine h.mw sg40, bs_some, if_pos hkw]
    dsimp only
    rw [if_neg ne10, a2, bs_some]
  rw [a1, bs_some, hsign, bs_some]
  dsimp only
  have hc2 : CI C c0 b c2 b := hc.fr a3 (by decide)
  have hm2 : MI m0 m2 := hm.fr a4 (by decide)
  unfold f_X4_readArguments_J26
  rcases a5 with hX2 | ⟨hbw, hnf⟩
  · have hbn2 := hbn.adv hs0 a3 a4 (a6 hX2.fine)
    rw [hX2.k.1, m_isSign hX2.fine hX2.mw sg41, bs_some]
    dsimp only
    by_cases h41 : wK w2 = 41
    · rw [if_pos h41, if_pos h41, if_neg ne10]
      have hl : f_X4_readArguments_L30 n rc a n c2 b 0 0 0 = some (Sum.inr (c2, b, 0, 0, 0)) := by
        have : f_X4_readArguments_L30 n rc a (q + 1) c2 b 0 0 0 = some (Sum.inr (c2, b, 0, 0, 0)) := by
          rw [u_X4_readArguments_L30, if_pos rfl]
        rw [← hq] at this; exact this
      rw [hl, bs_some]
      refine out_ck ?_
      dsimp only [Sum.elim]
      obtain ⟨c3, m3, b1, b2, b3, b4, ⟨w3, L3, hL3, b5⟩, b6⟩ := adv_ok (n := n) hn hX2 (by rw [h41]; decide)
      refine out_c (c_pass1 (hX2.k.1.trans h41) b1) ?_
      rw [b2, bs_some]
      have hc3 : CI C c0 b c3 b := hc2.fr b3 (by decide)
      have hm3 : MI m0 m3 := hm2.fr b4 (by decide)
      rcases b5 with hX3 | ⟨hbw, hnf⟩
      · have hbn3 := hbn2.adv hs0 b3 b4 (b6 hX3.fine)
        refine ⟨0, m3, rfl, hm3, Or.inl ⟨0, c3, b, rfl, hc3, (KP.fr a4 (by decide)).tr (KP.fr b4 (by decide)), w3, L3, 0, l1, [], [], [], rfl, rfl, by omega, hX3, by rw [hL2, hL3]; simp; omega, rfl, by simpa using hbn3⟩⟩
      · obtain ⟨z1, z2⟩ := CS.adv hbn2.1.1 b3
        refine ⟨0, m3, rfl, hm3, Or.inr (Or.inl ⟨wF w3, Or.inl ⟨0, c3, b, rfl, hc3, hbw, z1, ?_⟩, hnf⟩)⟩
        have := hbn2.1.nv.2.2.2.2.2.1
        have := hbn2.2.1.n35
        omega
    · rw [if_neg h41, if_neg h41, if_pos rfl]
      have hloop := argsL (n := n) hC hn hkd hx hnx hne (c0 := c0) (m0 := m0) (ch := ch) (ess := ess) (ns := ns) (pre := pre) hs0 h63 hkl 3 0 q q c2 b m2 w2 L2 l1 [] [] [] (by omega) (by omega) (by omega) hc2 hm2 hX2 (by simpa using hbn2) rfl
      rw [← hq] at hloop
      refine out_loopx (T := TA) (M := MA) (bd := fun r => r.2.1) (ms := msA) hloop ?_ ?_ ?_
      · rintro ⟨c3, b3, v3, u3, s3⟩ y' hc3 hm3 ⟨w3, L3, j, l3, ch3, E, ns3, mm, rfl, hv3, hj, hX3, hl3, hkp3, hch3, hbn3⟩
        dsimp only at hc3 hm3 hv3 hX3 hbn3 ⊢
        dsimp only [Sum.elim]
        refine out_seq (pass_out (s := 41) (sk := 41) hC hn hc3.here hm3 hX3 sg41 (by decide)) ?_ ?_ ?_
        · rintro v6 c6 b6 x6 m6 hc6 hm6 ⟨rfl, -, ⟨w6, L6, hL6, hX6⟩, fc6, fm6, s6⟩
          dsimp only
          refine ⟨nI j, m6, rfl, hm6, Or.inl ⟨v3, c6, b6, rfl, hc6.here, ((KP.fr a4 (by decide)).tr hkp3).tr (KP.fr fm6 (by decide)), w6, L6, j, l3, ch3, E, ns3, hv3, rfl, hj, hX6, ?_, hch3, hbn3.adv hs0 fc6 fm6 s6⟩⟩
          rw [hL6] at hl3; rw [hL2]; simp at hl3 ⊢; omega
        · rintro v6 c6 b6 pl hc6 hbw ⟨rfl, fc6⟩
          obtain ⟨z1, z2⟩ := CS.adv hbn3.1.1 fc6
          refine Or.inl ⟨v3, c6, b6, rfl, hc6.here, hbw, z1, ?_⟩
          have := hbn3.1.nv.2.2.2.2.2.1
          have := hbn3.2.1.n35
          omega
        · intro x6 m6 k2 pl h1 h2
          exact ⟨nI j, m6, rfl, h1, h2⟩
      · rintro ⟨c3, b3, v3, u3, s3⟩ pl hc3 hbw -
        dsimp only at hc3 hbw ⊢
        exact op_seq (Pn1 := fun _ _ => False) (pass_bw hC hc3.here hbw (by decide)) (fun _ _ _ _ _ y => y.elim)
      · intro y' k2 pl h1 h2
        rcases y' with ⟨v3, q3⟩ | ⟨q3, v3, u3⟩
        · exact ⟨v3, q3, rfl, h1, h2⟩
        · dsimp only [Sum.elim]
          have h2' : NF q3 k2 pl := h2
          rw [nf_sign h2', bs_some]
          exact ⟨v3, q3, rfl, h1, h2'⟩
  · have hl : f_X4_readArguments_L30 n rc a n c2 b 0 1 0 = f_X4_readArguments_L30 n rc a (q + 1) c2 b 0 1 0 := by rw [← hq]
    obtain ⟨c', b', e1, e2⟩ := c_need0 (n := n) hC hc2.1 hbw.2
    have hl2 : f_X12_arguments_L25 n rm (nI i) n m2 0 1 = some (Sum.inr (m2, 0, 1)) := by
      have : f_X12_arguments_L25 n rm (nI i) (q + 1) m2 0 1 = some (Sum.inr (m2, 0, 1)) := by
        rw [u_X12_arguments_L25, if_neg ne10, nf_isFine hnf, bs_some]; rfl
      rw [← hq] at this; exact this
    rw [nf_isSign hnf, bs_some]
    dsimp only
    rw [if_pos rfl, hl2, bs_some]
    dsimp only [Sum.elim]
    rw [nf_sign hnf, bs_some]
    refine ⟨0, m2, rfl, hm2, Or.inr (Or.inl ⟨wF w2, ?_, hnf⟩)⟩
    rw [hbw.1, if_neg (show ¬ (1 : Int32) = 41 by decide)]
    refine op_loopx (T := TA) (cs := fun r => r.1) (bd := fun r => r.2.1) (Pn1 := fun _ => False) (Or.inr ⟨c', b', ?_, e2.tx hc2⟩) (fun _ _ _ y => y.elim)
    rw [hl, u_X4_readArguments_L30, if_neg ne10, if_neg (show ¬ (3 : Int32) < 0 by decide), c_be hbw.1, bs_some, show f_X4_need n c2 b (if (1 : Int32) = 213 ∨ (1 : Int32) = 215 ∨ (1 : Int32) = 218 then 1 else if cbp 1 = 0 then 0 else 1) = _ from e1, bs_some]
    exact ckx_inl (bd := fun (r : TA) => r.2.1) rfl (ble.refl _)
