/-! grants in step -/
theorem PolQ.right {c c' : cd_S} {m m' : md_S} {gc gm l : Nat} {fl : Int32} {o z : Nat} (h : PolQ c m gc gm l) (hf : RFr c c' m m' fl o z) (hR : RtR c' m' o (z + 1)) (hS : RS c' fl o (z + 1)) (hz : z < 8) (hS0 : RS c fl o z) (hR0 : RtR c m o z) : PolQ c' m' gc gm l := by
  obtain ⟨a1, a2, a3, a4, a5, a6, a7, a8, a9⟩ := h
  obtain ⟨f1, f2, f3, f4, f5, f6, f7, f8, f9⟩ := hf
  have ho : o < 20 := by rcases hS with h | h <;> omega
  have hrt : ∀ q y, q < 20 → q ≠ o → RtR c m q y → RtR c' m' q y := fun q y hq hne hr => by
    have hy := hr.2.1
    refine hr.to (fun x hx => f1 _ (by omega) (by omega)) (fun x hx => ?_) (f5 q hne)
    obtain ⟨y1, y2, y3⟩ := f2 (16 + (8 * q + x)) (by omega)
    exact ⟨y1, y2, y3, f6 _ (by omega)⟩
  have h106 : cI c' 106 0 = nI gc := by rw [cd_frI f7 (by decide) (by decide)]; exact a4
  have h107 : cI c' 107 0 = nI l := by rw [cd_frI f7 (by decide) (by decide)]; exact a6
  refine ⟨a1, a2, a3, h106, by rw [md_frI f8 (by decide)]; exact a5, h107, by rw [md_frI f8 (by decide)]; exact a7, fun i hi => ⟨?_, ?_⟩, fun i hi => ?_⟩
  · obtain ⟨a, tl, r1, r2, r3, r4, r5, r6, r7⟩ := (a8 i hi).1
    obtain ⟨y1, y2, y3, y4⟩ := f1 i (by omega) (by omega)
    obtain ⟨z1, z2, z3⟩ := f2 (8 + i) (by omega)
    exact ⟨a, tl, r1, r2, y1.trans r3, y2.trans r4, z1.trans r5, z2.trans r6, fun x hx => by rw [y4, z3 x (by omega)]; exact r7 x hx⟩
  · by_cases hio : i = o
    · subst hio
      rcases hS with ⟨s1, s2, s3, s4⟩ | ⟨s1, s2, s3, s4, s5⟩
      · exact ⟨z + 1, s4, hR⟩
      · exact absurd s2 (by omega)
    · obtain ⟨y, y1, y2⟩ := (a8 i hi).2
      exact ⟨y, by rw [f3 i (fun _ => hio)]; exact y1, hrt i y (by omega) hio y2⟩
  · by_cases hio : 8 + i = o
    · subst hio
      rcases hS with ⟨s1, s2, s3, s4⟩ | ⟨s1, s2, s3, s4, s5⟩
      · exact absurd s2 (by omega)
      · rw [Nat.add_sub_cancel_left] at s5
        exact ⟨z + 1, s5, hR⟩
    · obtain ⟨y, y1, y2⟩ := a9 i hi
      refine ⟨y, ?_, hrt (8 + i) y (by omega) hio y2⟩
      rw [f4 i (fun hfl => ?_)]
      · exact y1
      · rcases hS with ⟨s1, s2, s3, s4⟩ | ⟨s1, s2, s3, s4, s5⟩
        · rw [s1] at hfl; exact absurd hfl (by decide)
        · omega
def gFc : List Nat := [98, 99, 160, 161, 162, 163, 327, 328, 329, 330]
def gFm : List Nat := [6, 7, 8, 9, 10, 11, 12, 13, 14, 15, 17, 18, 19, 23, 24]
theorem nf_grL {n : Nat} {m : md_S} {k pl j : Nat} (h : NF m k pl) : f_X12_grant_L47 n (j + 1) m = some m := by
  rw [u_X12_grant_L47, nf_isFine h, bs_some]; rfl
theorem bw_fr {c c' : cd_S} {pl : Nat} {F : List Nat} (h : BW c pl) (hf : cd_fr F [] c c') (h1 : 328 ∉ F) (h2 : 329 ∉ F) : BW c' pl := ⟨(cd_frI hf h1 (by decide) _).trans h.1, (cd_frI hf h2 (by decide) _).trans h.2⟩
theorem grL {n : Nat} {C : Nat × Nat} {B : Nat → Int32} {N g l : Nat} {c0 : cd_S} {m0 : md_S} (hC : BC C) (hn : 5000 ≤ n) (hg : g < 8) : ∀ (d j j2 z : Nat) (c : cd_S) (b : cd_B) (m : md_S) (w : WD) (L : List WD), z + d = 9 → d < j → d < j2 → z ≤ 8 → CI C c0 b c b → MI m0 m → LX B N c m w L → PolQ c m (g + 1) g l → cAr c 98 0 g = nI z →
    OUTL C c0 m0 b (f_X4_readGrant_L31 n j c b (nI z)) (f_X12_grant_L47 n j2 m) (fun c' b' m' => b' = b ∧ (∃ w' L', LX B N c' m' w' L' ∧ L'.length ≤ L.length) ∧ PolQ c' m' (g + 1) g l ∧ cd_fr gFc [] c c' ∧ md_fr gFm m m' ∧ mI m' 7 = mI m 7) (fun c' b' => b' = b ∧ cd_fr gFc [] c c') := by
  intro d
  induction d with
  | zero => intro j j2 z c b m w L h1 _ _ h2; omega
  | succ d ih =>
  intro j j2 z c b m w L hzd hj hj2 hz8 hc hm h hP hz
  obtain ⟨j, rfl⟩ : ∃ i, j = i + 1 := ⟨j - 1, by omega⟩
  obtain ⟨j2, rfl⟩ : ∃ i, j2 = i + 1 := ⟨j2 - 1, by omega⟩
  have hzz : ∀ k ∈ vks, (mWd k = 1 ↔ k = 2) := by decide
  have hzz := hzz _ h.mw.1
  rw [u_X4_readGrant_L31, if_neg (show ¬ (8 : Int32) < nI z from fun y => absurd ((nI_ltI (a := 8) (by decide) (by omega)).mp y) (by omega)), h.k.1, u_X12_grant_L47, m_fine, bs_some, if_pos h.fine]
  dsimp only
  rw [if_neg (show ¬ (1 : Int32) = 0 by decide), h.mw.2.1]
  by_cases hk : wK w = 2
  · rw [if_pos hk, if_pos (hzz.mpr hk), hP.2.2.2.2.1]
    obtain ⟨z', z1, z2⟩ := (hP.2.2.2.2.2.2.2.1 g (by omega)).2
    obtain rfl : z' = z := (nI_eq (by have := z2.2.1; omega) (by omega)).mp (z1.symm.trans hz)
    have hS : RS c 0 g z' := Or.inl ⟨rfl, hg, hP.2.2.2.1, hz⟩
    refine outl_seq (right_ok hC hn hc hm h hS z2) ?_ ?_ ?_
    · rintro v c1 b1 x m1 hc1 hm1 ⟨rfl, hz7, -, ⟨w1, w2, L2, hL, hLX⟩, hR1, hS1, hF⟩
      have hP1 := hP.right hF hR1 hS1 hz7 hS z2
      obtain ⟨-, -, -, s4⟩ := hS1.resolve_right (fun y => absurd y.1 (by decide))
      dsimp only
      refine outl_seq (pass_out (s := 59) (sk := 59) hC hn hc1.here hm1 hLX (by decide) (by decide)) ?_ ?_ ?_
      · rintro v2 c2 b2 x2 m2 hc2 hm2 ⟨rfl, hk2, ⟨w3, L3, hL3, hLX3⟩, q4, q5, q6⟩
        dsimp only
        rw [nI_1]
        have hP2 : PolQ c2 m2 (g + 1) g l := hP1.fr q4 q5 (by decide) (by decide)
        have hih := ih j j2 (z' + 1) c2 b2 m2 w3 L3 (by omega) (by omega) (by omega) (by omega) hc2.here hm2 hLX3 hP2 (by rw [cd_frA q4 (by decide) (by decide)]; exact s4)
        have fc2 : cd_fr gFc [] c c2 := cd_fr_tr hF.2.2.2.2.2.2.1 q4 (fun k hk => ⟨hk, nin (by decide) hk⟩) (fun _ y => ⟨y, y⟩)
        have fm2 : md_fr gFm m m2 := md_fr_tr hF.2.2.2.2.2.2.2.1 q5 (fun k hk => ⟨hk, nin (by decide) hk⟩)
        obtain ⟨m', e1, e2, e3 | ⟨pl, e3, e4⟩ | e3⟩ := hih
        · obtain ⟨c', b', i, k1, k2, rfl, ⟨w', L', k3, k4⟩, k5, k6, k7, k8⟩ := e3
          refine ⟨m', e1, e2, Or.inl ⟨c', b', i, k1, k2, rfl, ⟨w', L', k3, ?_⟩, k5, cd_fr_tr fc2 k6 (fun _ y => ⟨y, y⟩) (fun _ y => ⟨y, y⟩), md_fr_tr fm2 k7 (fun _ y => ⟨y, y⟩), ?_⟩⟩
          · rw [hL, hL3]; simp; omega
          · rw [k8, q6]; exact hF.2.2.2.2.2.2.2.2
        · refine ⟨m', e1, e2, Or.inr (Or.inl ⟨pl, ?_, e4⟩)⟩
          rcases e3 with ⟨c', b', i, k1, k2, k3, rfl, k4⟩ | e3
          · exact Or.inl ⟨c', b', i, k1, k2, k3, rfl, cd_fr_tr fc2 k4 (fun _ y => ⟨y, y⟩) (fun _ y => ⟨y, y⟩)⟩
          · exact Or.inr e3
        · exact ⟨m', e1, e2, Or.inr (Or.inr e3)⟩
      · rintro v2 c2 b2 pl hc2 hbw ⟨rfl, q4⟩
        dsimp only
        obtain ⟨j, rfl⟩ : ∃ i, j = i + 1 := ⟨j - 1, by omega⟩
        have fc2 : cd_fr gFc [] c c2 := cd_fr_tr hF.2.2.2.2.2.2.1 q4 (fun k hk => ⟨hk, nin (by decide) hk⟩) (fun _ y => ⟨y, y⟩)
        refine Or.inl ⟨c2, b2, nI z' + 1, ?_, hc2.here, hbw, rfl, fc2⟩
        rw [u_X4_readGrant_L31, hbw.1, if_neg (show ¬ (1 : Int32) = 2 by decide)]
        split <;> rfl
      · intro x3 m3 k pl a1 a2
        obtain ⟨j2, rfl⟩ : ∃ i, j2 = i + 1 := ⟨j2 - 1, by omega⟩
        exact ⟨m3, nf_grL a2, a1, a2⟩
    · rintro v c1 b1 pl hc1 hbw ⟨rfl, q4⟩
      dsimp only
      exact opl_seq (Pn1 := fun _ _ => False) (pass_bw hC hc1.here hbw (by decide)) (fun _ _ _ _ _ y => y.elim)
    · intro x1 m1 k pl a1 a2
      dsimp only
      obtain ⟨j2, rfl⟩ : ∃ i, j2 = i + 1 := ⟨j2 - 1, by omega⟩
      exact ⟨m1, by rw [nf_sign a2, bs_some]; exact nf_grL a2, a1, a2⟩
  · rw [if_neg hk, if_neg (fun y => hk (hzz.mp y))]
    exact ⟨m, rfl, hm, Or.inl ⟨c, b, nI z, rfl, hc, rfl, ⟨w, L, h, Nat.le_refl _⟩, hP, cd_fr_refl _ _ _, md_fr_refl _ _, rfl⟩⟩
def gGc : List Nat := [98, 99, 106, 160, 161, 162, 163, 327, 328, 329, 330]
def gGm : List Nat := [6, 7, 8, 9, 10, 11, 12, 13, 14, 15, 17, 18, 19, 20, 23, 24]
theorem c_addGrant {n : Nat} {c : cd_S} {g : Nat} (hn : 100 ≤ n) (hg : g < 8) (h1 : cI c 106 0 = nI g) : ∃ d, f_X3_addGrant n c 193 = some (0, cSI (cSA d 98 0 g 0) 106 0 (nI (g + 1))) ∧ Rfr c d g ∧ cI d 162 g = cI c 162 193 ∧ cI d 163 g = cI c 163 193 ∧ cJ d 160 g = cJ c 160 193 ∧ ∀ x, x < 5 → cLr d 161 g x = cLr c 161 193 x := by
  obtain ⟨d, e1, e2⟩ := c_take (n := n) (c := c) (r := g) (r2 := 193) hn (by omega)
  refine ⟨d, ?_, e2⟩
  unfold f_X3_addGrant
  rw [h1, if_neg (show ¬ (8 : Int32) ≤ nI g from fun y => absurd ((nI_leI (a := 8) (by decide) (by omega)).mp y) (by omega)), c_ld96 hg, bs_some, Nat.zero_add, e1, bs_some]
  dsimp only
  rw [cd_frI e2.1.2 (by decide) (by decide), h1, c_st98 hg, bs_some, bs_some, cI_SA, cd_frI e2.1.2 (by decide) (by decide), h1, nI_1]
/-- a grant, its word being at hand -/
theorem grant_ok {n : Nat} {C : Nat × Nat} {B : Nat → Int32} {N g l : Nat} {c0 c : cd_S} {m0 m : md_S} {b : cd_B} {w : WD} {L : List WD} (hC : BC C) (hn : 5000 ≤ n) (hK : kB m0 = 8) (hg : g < 8) (hc : CI C c0 b c b) (hm : MI m0 m) (h : LX B N c m w L) (hk : wK w = 210) (hP : PolQ c m g g l) :
    OUT C c0 m0 b (f_X4_readGrant n c b) (f_X12_grant n m) (fun _ c' b' _ m' => b' = b ∧ (∃ w' L', LX B N c' m' w' L' ∧ L'.length < L.length) ∧ PolQ c' m' (g + 1) (g + 1) l ∧ cd_fr gGc [] c c' ∧ md_fr gGm m m' ∧ mI m' 7 = mI m 7) (fun c' b' => b' = b ∧ cd_fr gGc [] c c') := by
  have hm20 := hP.2.2.2.2.1
  obtain ⟨c1, m1, e1, e2, e3, e4, ⟨w1, L1, hL1, e5⟩, e6⟩ := adv_ok (n := n) hn h (by rw [hk]; decide)
  -- the model behind a fault
  have nfT : ∀ (m' : md_S) (k pl : Nat), MI m0 m' → NF m' k pl → ∃ x2 m2, (Option.bind (f_X12_sign n m' (125 : Int32)) fun p9 => Option.bind (some (mSI p9.2 20 (((mI p9.2 20) + 1)))) fun σ10 => some ((0 : Int32), σ10)) = some (x2, m2) ∧ MI m0 m2 ∧ NF m2 k pl := by
    intro m' k pl a1 a2
    have hff : md_fr [20] m' (mSI m' 20 (mI m' 20 + 1)) := md_fr_SI (md_fr_refl _ _) (by decide) _
    exact ⟨0, _, by rw [nf_sign a2, bs_some, bs_some], a1.f20 hK, a2.fr hff (by decide) (by decide)⟩
  have nfL : ∀ (m' : md_S) (k pl : Nat), MI m0 m' → NF m' k pl → ∃ x2 m2, (Option.bind (f_X12_grant_L47 n n m') fun q8 => Option.bind (f_X12_sign n q8 (125 : Int32)) fun p9 => Option.bind (some (mSI p9.2 20 (((mI p9.2 20) + 1)))) fun σ10 => some ((0 : Int32), σ10)) = some (x2, m2) ∧ MI m0 m2 ∧ NF m2 k pl := by
    intro m' k pl a1 a2
    have hnf : f_X12_grant_L47 n n m' = some m' := by
      have : f_X12_grant_L47 n ((n - 1) + 1) m' = some m' := nf_grL a2
      rwa [show n - 1 + 1 = n by omega] at this
    rw [hnf, bs_some]
    exact nfT m' k pl a1 a2
  have nfS : ∀ (m' : md_S) (k pl : Nat), MI m0 m' → NF m' k pl → ∃ x2 m2, (Option.bind (f_X12_sign n m' (123 : Int32)) fun p4 => Option.bind (f_X12_grant_L47 n n p4.2) fun q8 => Option.bind (f_X12_sign n q8 (125 : Int32)) fun p9 => Option.bind (some (mSI p9.2 20 (((mI p9.2 20) + 1)))) fun σ10 => some ((0 : Int32), σ10)) = some (x2, m2) ∧ MI m0 m2 ∧ NF m2 k pl := by
    intro m' k pl a1 a2
    rw [nf_sign a2, bs_some]
    exact nfL m' k pl a1 a2
  unfold f_X4_readGrant
  refine out_ck ?_
  unfold f_X12_grant
  rw [e1, bs_some, hm20, if_neg (show ¬ nI g = 8 from fun y => absurd ((nI_eq (b := 8) (by omega) (by decide)).mp y) (by omega)), e2, bs_some]
  dsimp only
  rw [md_frI e4 (by decide), hm20, m_st23 (by omega), bs_some, mI_SA, md_frI e4 (by decide), hm20, show (8 : Int32) = nI 8 from rfl, nI_add]
  have hCI1 : CI C c0 b c1 b := hc.fr e3 (by decide)
  have gr2 : md_fr gGm m (mSA m1 23 g 0) := md_fr_SA (md_fr_mono e4 (by decide)) (by decide) _ _
  have hMI2 : MI m0 (mSA m1 23 g 0) := (hm.fr e4 (by decide)).fr (md_fr_SA (md_fr_refl _ [23]) (by decide) _ _) (by decide)
  have frc1 : cd_fr gGc [] c c1 := cd_fr_mono e3 (by decide) (fun _ y => y)
  rcases e5 with e5 | ⟨hbw, hnf1⟩
  · have hLX2 : LX B N c1 (mSA m1 23 g 0) w1 L1 := e5.fr (cd_fr_refl _ [] []) (md_fr_SA (md_fr_refl _ [23]) (by decide) _ _) (by decide) (by decide) (by decide)
    have hm7 : mI (mSA m1 23 g 0) 7 = mI m 7 := by rw [mI_SA]; exact e6 e5.fine
    refine out_seq (pat_ok hC hn hCI1 hMI2 hLX2 (p := 8 + g) (by omega) (by omega) (Or.inl rfl)) ?_ ?_ (fun _ m' k pl a1 a2 => nfS m' k pl a1 a2)
    · rintro v c2 b2 x m2 hc2 hm2 ⟨rfl, ⟨w2, L2, hL2, hLX⟩, p2, -, p4, p5, p6, p7, p8⟩
      dsimp only
      have h106 : cI c2 106 0 = nI g := by rw [cd_frI p6 (by decide) (by decide), cd_frI e3 (by decide) (by decide)]; exact hP.2.2.2.1
      obtain ⟨d, d1, d2, d3, d4, d5, d6⟩ := c_addGrant (n := n) (c := c2) (by omega) hg h106
      rw [d1, bs_some]
      dsimp only
      obtain ⟨c3, hc3⟩ : ∃ c3, c3 = cSI (cSA d 98 0 g 0) 106 0 (nI (g + 1)) := ⟨_, rfl⟩
      rw [← hc3]
      have fd3 : cd_fr [98, 106, 160, 161, 162, 163] [] c2 c3 := by rw [hc3]; exact cd_fr_SI (cd_fr_SA (cd_fr_mono d2.2 (by decide) (fun _ y => y)) (by decide) _ _ _) (by decide) (by decide) _ _
      have hCI3 : CI C c0 b2 c3 b2 := hc2.here.rx fd3 (by decide) (fun x hx => by rw [hc3]; exact d2.1 x (by omega))
      have hLX3 : LX B N c3 m2 w2 L2 := hLX.fr fd3 (md_fr_refl _ []) (by decide) (by decide) (by decide)
      have hr3 : ∀ x, x ≠ g → cI c3 162 x = cI c2 162 x ∧ cI c3 163 x = cI c2 163 x ∧ cJ c3 160 x = cJ c2 160 x ∧ ∀ i, cLr c3 161 x i = cLr c2 161 x i := fun x hx => by rw [hc3]; exact d2.1 x hx
      have hfrm2 : ∀ k, k ∈ [20, 22] → mI m2 k = mI m k := fun k hk => by
        have hk : k = 20 ∨ k = 22 := by simpa using hk
        rcases hk with rfl | rfl
        · rw [md_frI p7 (by decide), mI_SA, md_frI e4 (by decide)]
        · rw [md_frI p7 (by decide), mI_SA, md_frI e4 (by decide)]
      -- the policy, with the new grant
      have hP3 : PolQ c3 m2 (g + 1) g l := by
        obtain ⟨a1, a2, a3, a4, a5, a6, a7, a8, a9⟩ := hP
        have hrt : ∀ q y, q < 20 → q ≠ g → RtR c m q y → RtR c3 m2 q y := fun q y hq hne hr => by
          have hy := hr.2.1
          refine hr.to (fun x hx => ?_) (fun x hx => ?_) ?_
          · obtain ⟨y1, y2, y3, y4⟩ := hr3 (8 + (8 * q + x)) (by omega)
            obtain ⟨z1, z2, z3, z4⟩ := p4.1 (8 + (8 * q + x)) (by omega)
            exact ⟨by rw [y1, z1, cd_frI e3 (by decide) (by decide)], by rw [y2, z2, cd_frI e3 (by decide) (by decide)], by rw [y3, z3, cd_frJ e3 (by decide) (by decide)], fun i => by rw [y4, z4, cd_frL e3 (by decide) (by decide)]⟩
          · obtain ⟨y1, y2, y3⟩ := p5 (16 + (8 * q + x)) (by omega)
            exact ⟨by rw [y1, mA_SAo (by decide), md_frA e4 (by decide)], by rw [y2, mA_SAo (by decide), md_frA e4 (by decide)], fun i hi => by rw [y3 i hi, mL_SA, md_frL e4 (by decide)], by rw [md_frL p7 (by decide), mL_SA, md_frL e4 (by decide)]⟩
          · rw [md_frA p7 (by decide), mA_SAi hne, md_frA e4 (by decide)]
        refine ⟨by omega, a2, a3, by rw [hc3, cI_SIe], (hfrm2 20 (by decide)).trans a5, ?_, (hfrm2 22 (by decide)).trans a7, fun i hi => ?_, fun i hi => ?_⟩
        · rw [cd_frI fd3 (by decide) (by decide), cd_frI p6 (by decide) (by decide), cd_frI e3 (by decide) (by decide)]; exact a6
        · by_cases hig : i = g
          · subst hig
            refine ⟨?_, 0, by rw [hc3, cA_SI, cA_SAe]; rfl, ?_, by omega, fun x hx => absurd hx (by omega)⟩
            · obtain ⟨a, tl, r1, r2, r3, r4, r5, r6, r7⟩ := p2
              exact ⟨a, tl, r1, r2, by rw [hc3, cI_SIo (by decide), cI_SA, d3]; exact r3, by rw [hc3, cI_SIo (by decide), cI_SA, d4]; exact r4, r5, r6, fun x hx => by rw [hc3, cL_SI, cL_SA, d6 x (by omega)]; exact r7 x hx⟩
            · rw [md_frA p7 (by decide), mA_SAe]; rfl
          · obtain ⟨r0, y, y1, y2⟩ := a8 i (by omega)
            refine ⟨?_, y, ?_, hrt i y (by omega) hig y2⟩
            · obtain ⟨a, tl, r1, r2, r3, r4, r5, r6, r7⟩ := r0
              obtain ⟨q1, q2, q3, q4⟩ := hr3 i hig
              obtain ⟨z1, z2, z3, z4⟩ := p4.1 i (by omega)
              obtain ⟨v1, v2, v3⟩ := p5 (8 + i) (by omega)
              exact ⟨a, tl, r1, r2, by rw [q1, z1, cd_frI e3 (by decide) (by decide)]; exact r3, by rw [q2, z2, cd_frI e3 (by decide) (by decide)]; exact r4, by rw [v1, mA_SAo (by decide), md_frA e4 (by decide)]; exact r5, by rw [v2, mA_SAo (by decide), md_frA e4 (by decide)]; exact r6, fun x hx => by rw [q4, z4, cd_frL e3 (by decide) (by decide), v3 x (by omega), mL_SA, md_frL e4 (by decide)]; exact r7 x hx⟩
            · rw [hc3, cA_SI, cA_SAi hig, cd_frA d2.2 (by decide) (by decide), cd_frA p6 (by decide) (by decide), cd_frA e3 (by decide) (by decide)]; exact y1
        · obtain ⟨y, y1, y2⟩ := a9 i hi
          refine ⟨y, ?_, hrt (8 + i) y (by omega) (by omega) y2⟩
          rw [cd_frA fd3 (by decide) (by decide), cd_frA p6 (by decide) (by decide), cd_frA e3 (by decide) (by decide)]; exact y1
      have hz0 : cAr c3 98 0 g = nI 0 := by rw [hc3, cA_SI, cA_SAe]; rfl
      have frc3 : cd_fr gGc [] c c3 := cd_fr_tr (cd_fr_tr frc1 p6 (L3 := gGc) (R3 := []) (fun k hk => ⟨hk, nin (by decide) hk⟩) (fun _ y => ⟨y, y⟩)) fd3 (fun k hk => ⟨hk, nin (by decide) hk⟩) (fun _ y => ⟨y, y⟩)
      have frm2 : md_fr gGm m m2 := md_fr_tr gr2 p7 (fun k hk => ⟨hk, nin (by decide) hk⟩)
      refine out_seq (pass_out (s := 123) (sk := 123) hC hn hCI3 hm2 hLX3 (by decide) (by decide)) ?_ ?_ (fun _ m' k pl a1 a2 => nfL m' k pl a1 a2)
      · rintro v4 c4 b4 x4 m4 hc4 hm4 ⟨rfl, -, ⟨w4, L4, hL4, hLX4⟩, q4, q5, q6⟩
        dsimp only
        have hP4 : PolQ c4 m4 (g + 1) g l := hP3.fr q4 q5 (by decide) (by decide)
        refine out_loop (show OUTL C c0 m0 b4 (f_X4_readGrant_L31 n n c4 b4 0) (f_X12_grant_L47 n n m4) _ _ from grL hC hn hg 9 n n 0 c4 b4 m4 w4 L4 (by omega) (by omega) (by omega) (by omega) hc4.here hm4 hLX4 hP4 (by rw [cd_frA q4 (by decide) (by decide)]; exact hz0)) ?_ ?_ (fun m' k pl a1 a2 => nfT m' k pl a1 a2)
        · rintro c5 b5 i m5 hc5 hm5 ⟨rfl, ⟨w5, L5, hLX5, hlen5⟩, hP5, f5, g5, s5⟩
          dsimp only
          refine out_seq (pass_out (s := 125) (sk := 125) hC hn hc5.here hm5 hLX5 (by decide) (by decide)) ?_ ?_ ?_
          · rintro v6 c6 b6 x6 m6 hc6 hm6 ⟨rfl, -, ⟨w6, L6, hL6, hLX6⟩, q4', q5', q6'⟩
            dsimp only
            have hP6 : PolQ c6 m6 (g + 1) g l := hP5.fr q4' q5' (by decide) (by decide)
            have h20 := hP6.2.2.2.2.1
            have hff : md_fr [20] m6 (mSI m6 20 (nI (g + 1))) := md_fr_SI (md_fr_refl _ _) (by decide) _
            refine ⟨0, mSI m6 20 (nI (g + 1)), by rw [bs_some, h20, nI_1], hm6.f20 hK, Or.inl ⟨0, c6, b6, rfl, hc6.here, rfl, ⟨w6, L6, hLX6.fr (cd_fr_refl _ [] []) hff (by decide) (by decide) (by decide), ?_⟩, ?_, ?_, ?_, ?_⟩⟩
            · rw [hL1, hL2, hL4]; rw [hL6] at hlen5; simp at hlen5 ⊢; omega
            · obtain ⟨a1, a2, a3, a4, a5, a6, a7, a8, a9⟩ := hP6
              refine ⟨a1, by omega, a3, a4, mI_SIe, a6, by rw [mI_SIo (by decide)]; exact a7, fun i hi => ⟨?_, ?_⟩, fun i hi => ?_⟩
              · exact (a8 i hi).1
              · exact (a8 i hi).2
              · exact a9 i hi
            · exact cd_fr_tr (cd_fr_tr frc3 (cd_fr_tr q4 f5 (L3 := gGc) (R3 := []) (fun k hk => ⟨nin (by decide) hk, nin (by decide) hk⟩) (fun _ y => ⟨y, y⟩)) (L3 := gGc) (R3 := []) (fun _ y => ⟨y, y⟩) (fun _ y => ⟨y, y⟩)) q4' (fun k hk => ⟨hk, nin (by decide) hk⟩) (fun _ y => ⟨y, y⟩)
            · exact md_fr_SI (md_fr_tr (md_fr_tr frm2 (md_fr_tr q5 g5 (L3 := gGm) (fun k hk => ⟨nin (by decide) hk, nin (by decide) hk⟩)) (L3 := gGm) (fun _ y => ⟨y, y⟩)) q5' (fun k hk => ⟨hk, nin (by decide) hk⟩)) (by decide) _
            · rw [mI_SIo (by decide), q6', s5, q6, p8, hm7]
          · rintro v6 c6 b6 pl hc6 hbw ⟨rfl, q4'⟩
            dsimp only
            refine Or.inl ⟨0, c6, b6, rfl, hc6.here, hbw, rfl, ?_⟩
            exact cd_fr_tr (cd_fr_tr frc3 (cd_fr_tr q4 f5 (L3 := gGc) (R3 := []) (fun k hk => ⟨nin (by decide) hk, nin (by decide) hk⟩) (fun _ y => ⟨y, y⟩)) (L3 := gGc) (R3 := []) (fun _ y => ⟨y, y⟩) (fun _ y => ⟨y, y⟩)) q4' (fun k hk => ⟨hk, nin (by decide) hk⟩) (fun _ y => ⟨y, y⟩)
          · intro x6 m6 k pl a1 a2
            have hff : md_fr [20] m6 (mSI m6 20 (mI m6 20 + 1)) := md_fr_SI (md_fr_refl _ _) (by decide) _
            exact ⟨0, _, by rw [bs_some], a1.f20 hK, a2.fr hff (by decide) (by decide)⟩
        · rintro c5 b5 i pl hc5 hbw ⟨rfl, f5⟩
          dsimp only
          exact op_seq (Pn1 := fun _ _ => False) (pass_bw hC hc5.here hbw (by decide)) (fun _ _ _ _ _ y => y.elim)
      · rintro v4 c4 b4 pl hc4 hbw ⟨rfl, q4⟩
        dsimp only
        obtain ⟨j, hj⟩ : ∃ j, n = j + 1 := ⟨n - 1, by omega⟩
        have hloop : f_X4_readGrant_L31 n n c4 b4 0 = some (Sum.inr (c4, b4, 0)) := by
          have : f_X4_readGrant_L31 n (j + 1) c4 b4 0 = some (Sum.inr (c4, b4, 0)) := by
            rw [u_X4_readGrant_L31, if_neg (by decide), hbw.1, if_neg (by decide)]
          rwa [← hj] at this
        refine op_loop (Pn1 := fun c' b' => c' = c4 ∧ b' = b4) (Or.inl ⟨c4, b4, 0, hloop, hc4.here, hbw, rfl, rfl⟩) ?_
        rintro c' b' i h1 h2 ⟨rfl, rfl⟩
        dsimp only
        exact op_seq (Pn1 := fun _ _ => False) (pass_bw hC h1.here hbw (by decide)) (fun _ _ _ _ _ y => y.elim)
    · rintro v c2 b2 pl hc2 hbw ⟨rfl, p6⟩
      dsimp only
      have h106 : cI c2 106 0 = nI g := by rw [cd_frI p6 (by decide) (by decide), cd_frI e3 (by decide) (by decide)]; exact hP.2.2.2.1
      obtain ⟨d, d1, d2, -⟩ := c_addGrant (n := n) (c := c2) (by omega) hg h106
      rw [d1, bs_some]
      dsimp only
      have fd3 : cd_fr [98, 106, 160, 161, 162, 163] [] c2 (cSI (cSA d 98 0 g 0) 106 0 (nI (g + 1))) := cd_fr_SI (cd_fr_SA (cd_fr_mono d2.2 (by decide) (fun _ y => y)) (by decide) _ _ _) (by decide) (by decide) _ _
      exact op_seq (Pn1 := fun _ _ => False) (pass_bw hC (hc2.here.rx fd3 (by decide) (fun x hx => d2.1 x (by omega))) (bw_fr hbw fd3 (by decide) (by decide)) (by decide)) (fun _ _ _ _ _ y => y.elim)
  · have hnf2 : NF (mSA m1 23 g 0) 1 (wF w1) := hnf1.fr (md_fr_SA (md_fr_refl _ [23]) (by decide) _ _) (by decide) (by decide)
    obtain ⟨x2, m3, g1, g2, g3⟩ := nfS (mSA m1 23 g 0) 1 (wF w1) hMI2 hnf2
    refine ⟨x2, m3, by rw [nf_pattern hnf2, bs_some]; exact g1, g2, Or.inr (Or.inl ⟨wF w1, ?_, g3⟩)⟩
    exact op_seq (Pn1 := fun _ _ => False) (pat_bw hC hCI1 hbw) (fun _ _ _ _ _ y => y.elim)
