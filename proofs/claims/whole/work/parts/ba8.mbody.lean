/-! what stands between the braces of a module -/
theorem nfJ145 {n : Nat} {m0 m : md_S} {k pl : Nat} {l1 : Int32} (hn : 5000 ≤ n) (hm : MIw m0 m) (h : NF m k pl) : ∃ x m2, f_X12_readModule_J145 n m l1 = some (x, m2) ∧ MIw m0 m2 ∧ NF m2 k pl := by
  obtain ⟨n', hn'⟩ : ∃ q, n = q + 1 := ⟨n - 1, by omega⟩
  have f1 : md_fr [25] m (mSI m 25 (mI m 25 + 1)) := md_fr_SI (md_fr_refl _ _) (by decide) _
  have h1 := h.fr f1 (by decide) (by decide)
  have e1 : f_X12_readModule_L161 n l1 n (mSI m 25 (mI m 25 + 1)) = some (mSI m 25 (mI m 25 + 1)) := by
    have := nf_fieldL (n := n) (j := n') (l1 := l1) h1
    rw [← hn'] at this; exact this
  have e2 : f_X12_readModule_L187 n l1 n (mSI m 25 (mI m 25 + 1)) = some (mSI m 25 (mI m 25 + 1)) := by
    have := nf_methL (n := n) (j := n') (l1 := l1) h1
    rw [← hn'] at this; exact this
  unfold f_X12_readModule_J145
  rw [bs_some, nf_sign h1, bs_some]
  dsimp only
  rw [e1, bs_some, e2, bs_some, nf_sign h1, bs_some]
  exact ⟨_, _, rfl, hm.fr f1 (by decide), h1⟩
theorem mbody_ok {n : Nat} {C : Nat × Nat} {B : Nat → Int32} {N : Nat} {c0 c : cd_S} {m0 m : md_S} {b : cd_B} {w : WD} {L : List WD} {d : Nat} (hC : BC C) (hn : 5000 ≤ n) (hc : CI C c0 b c b) (hm : MIw m0 m) (h : LX B N c m w L) (hs : OST c (mSI m 25 (nI (d + 1))) (d + 1)) (h25 : mI m 25 = nI d) (hd : cI c 137 0 = nI d) (h28 : aN m 28 d = 0) (h30 : aN m 30 d = 0) :
    OUTG (MIw m0) C c0 b (f_X4_readModule_J123 n c b) (f_X12_readModule_J145 n m (nI d)) (fun _ c' _ _ m' => OST c' m' (d + 1) ∧ ∃ w' L', LX B N c' m' w' L' ∧ L'.length < L.length) (fun _ _ => True) := by
  obtain ⟨n', hn'⟩ : ∃ q, n = q + 1 := ⟨n - 1, by omega⟩
  have nfA : ∀ (z : md_S) (k pl : Nat), NF z k pl → f_X12_readModule_L161 n (nI d) n z = some z := fun z k pl hz => by
    have := nf_fieldL (n := n) (j := n') (l1 := nI d) hz
    rw [← hn'] at this; exact this
  have nfB : ∀ (z : md_S) (k pl : Nat), NF z k pl → f_X12_readModule_L187 n (nI d) n z = some z := fun z k pl hz => by
    have := nf_methL (n := n) (j := n') (l1 := nI d) hz
    rw [← hn'] at this; exact this
  have bwA : ∀ (z : cd_S) (b : cd_B) (pl : Nat) (i : Int32), BW z pl → f_X4_readModule_L131 n n z b i = some (Sum.inr (z, b, i)) := fun z b pl i hz => by
    have := bw_fieldL (n := n) (j := n') (b := b) (l1 := i) hz
    rw [← hn'] at this; exact this
  have bwB : ∀ (z : cd_S) (b : cd_B) (pl : Nat) (i : Int32), BW z pl → f_X4_readModule_L161 n n z b i = some (Sum.inr (z, b, i)) := fun z b pl i hz => by
    have := bw_methL (n := n) (j := n') (b := b) (l1 := i) hz
    rw [← hn'] at this; exact this
  unfold f_X4_readModule_J123 f_X12_readModule_J145
  rw [bs_some, h25, nI_1]
  obtain ⟨m1, hm1⟩ : ∃ z, z = mSI m 25 (nI (d + 1)) := ⟨_, rfl⟩
  rw [← hm1] at hs ⊢
  have f1 : md_fr [25] m m1 := by rw [hm1]; exact md_fr_SI (md_fr_refl _ _) (by decide) _
  have hX1 : LX B N c m1 w L := h.fr (cd_fr_refl _ [] []) f1 (by decide) (by decide) (by decide)
  have hmm1 : MIw m0 m1 := hm.fr f1 (by decide)
  refine outg_seq (pass_out (s := 123) (sk := 123) hC hn hc (MI.refl m1) hX1 sg123 (by decide)).g ?_ ?_ ?_
  · rintro v2 c2 b2 x2 m2 hc2 hm2 ⟨rfl, hk2, ⟨w2, L2, hL2, hX2⟩, fc2, fm2, s2⟩
    dsimp only
    have hs2 := hs.adv fc2 fm2
    have hd2 : cI c2 137 0 = nI d := by rw [cd_frI fc2 (by decide) (by decide)]; exact hd
    have x28 : aN m2 28 d = 0 := by
      have : aN m2 28 d = aN m 28 d := by rw [aN, aN, md_frA fm2 (by decide), md_frA f1 (by decide)]
      omega
    have x30 : aN m2 30 d = 0 := by
      have : aN m2 30 d = aN m 30 d := by rw [aN, aN, md_frA fm2 (by decide), md_frA f1 (by decide)]
      omega
    refine outg_loop (Q1 := MIw m0) (show OUTLG (MIw m0) C c0 b2 (f_X4_readModule_L131 n n c2 b2 0) (f_X12_readModule_L161 n (nI d) n m2) _ _ from fieldsL hC hn rfl 5 n n 0 c2 b2 m2 w2 L2 (by omega) (by omega) (by omega) hc2.here (hmm1.mi hm2) hX2 hs2 hd2 x28) ?_ ?_ ?_
    · rintro c3 b3 i3 m3 hc3 hm3 ⟨hs3, ⟨w3, L3, hX3, hl3, -⟩, hd3, y30⟩
      dsimp only
      refine outg_loop (Q1 := MIw m0) (show OUTLG (MIw m0) C c0 b3 (f_X4_readModule_L161 n n c3 b3 0) (f_X12_readModule_L187 n (nI d) n m3) _ _ from methsL hC hn (show d < d + 1 by omega) 13 n n 0 c3 b3 m3 w3 L3 (by omega) (by omega) (by omega) hc3.here hm3 hX3 hs3 hd3 (by omega)) ?_ ?_ ?_
      · rintro c4 b4 i4 m4 hc4 hm4 ⟨hs4, ⟨w4, L4, hX4, hl4, -⟩, hd4⟩
        dsimp only
        refine outg_seq (pass_out (s := 125) (sk := 125) hC hn hc4.here (MI.refl m4) hX4 sg125 (by decide)).g ?_ ?_ ?_
        · rintro v5 c5 b5 x5 m5 hc5 hm5 ⟨rfl, hk5, ⟨w5, L5, hL5, hX5⟩, fc5, fm5, s5⟩
          dsimp only
          refine ⟨0, m5, rfl, hm4.mi hm5, Or.inl ⟨0, c5, b5, rfl, hc5.here, hs4.adv fc5 fm5, w5, L5, hX5, ?_⟩⟩
          rw [hL2]; rw [hL5] at hl4; simp at hl4 ⊢; omega
        · rintro v5 c5 b5 pl hc5 hbw ⟨rfl, -⟩
          exact Or.inl ⟨0, c5, b5, rfl, hc5.here, hbw, trivial⟩
        · intro x5 z k pl h1 h2
          exact ⟨0, z, rfl, hm4.mi h1, h2⟩
      · rintro c4 b4 i4 pl hc4 hbw -
        dsimp only
        exact op_seq (Pn1 := fun _ _ => False) (pass_bw hC hc4.here hbw (by decide)) (fun _ _ _ _ _ y => y.elim)
      · intro z k pl h1 h2
        rw [nf_sign h2, bs_some]
        exact ⟨0, z, rfl, h1, h2⟩
    · rintro c3 b3 i3 pl hc3 hbw -
      dsimp only
      rw [bwB c3 b3 pl 0 hbw, bs_some]
      refine op_ck ?_
      exact op_seq (Pn1 := fun _ _ => False) (pass_bw hC hc3.here hbw (by decide)) (fun _ _ _ _ _ y => y.elim)
    · intro z k pl h1 h2
      rw [nfB z k pl h2, bs_some, nf_sign h2, bs_some]
      exact ⟨0, z, rfl, h1, h2⟩
  · rintro v2 c2 b2 pl hc2 hbw ⟨rfl, -⟩
    dsimp only
    rw [bwA c2 b2 pl 0 hbw, bs_some]
    refine op_ck ?_
    show OP C c0 b2 (Option.bind (f_X4_readModule_L161 n n c2 b2 0) _) pl _
    rw [bwB c2 b2 pl 0 hbw, bs_some]
    refine op_ck ?_
    exact op_seq (Pn1 := fun _ _ => False) (pass_bw hC hc2.here hbw (by decide)) (fun _ _ _ _ _ y => y.elim)
  · intro x2 z k pl h1 h2
    dsimp only
    rw [nfA z k pl h2, bs_some, nfB z k pl h2, bs_some, nf_sign h2, bs_some]
    exact ⟨0, z, rfl, hmm1.mi h1, h2⟩
