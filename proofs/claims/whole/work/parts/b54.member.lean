/-! members, in step -/
/-- what was read stays read, as all grows -/
theorem EOk.gr {pw : Nat} {B : Nat → Int32} {N : Nat} {c c1 c2 : cd_S} {m m1 m2 : md_S} {O : List Nat} {mc k kl k0 kl0 k2 kl2 : Nat} {L L2 : List WD} {v x : Int32} {b b2 : cd_B} {w2 : WD} (h : EOk pw B N c m O mc k kl L v c1 b x m1) (hs0 : ST c m O mc k0 kl0) (hs2 : ST c2 m2 O mc k2 kl2) (hg : GR c1 c2 m1 m2) (hX2 : LX B N c2 m2 w2 L2) (hl : L2.length < L.length) (h302 : cI c2 302 (mN m 64) = cI c1 302 (mN m 64)) (hL : rL c2 (17 + 3 * mN m 64) = rL c1 (17 + 3 * mN m 64)) (h65 : mN m2 65 = mN m1 65) : EOk pw B N c m O mc k2 kl2 L v c2 b2 x m2 := by
  obtain ⟨⟨w', L', hX, hl'⟩, hs, hg1, hp, f, r, es, l0, l1, ns, rfl, y0, y1, yb0, yb1, ⟨hG, hW⟩, hb, h71, hL', hcv⟩ := h
  obtain ⟨-, q35, q50, -⟩ := hs.nv
  have h62 : mN m1 62 ≤ mN m2 62 := by
    obtain ⟨-, -, -, -, -, -, -, -, -, -, -, -, r⟩ := hg
    exact r
  have hr := (hb.1 r hG.root.1 hG.root.2.1).2
  exact ⟨⟨w2, L2, hX2, hl⟩, hs2, GR.tr hs0 hg1 hg, by omega, f, r, es, l0, l1, ns, rfl, y0, h302.trans y1, yb0, yb1, ⟨hG.to hg.2.1 q35 (by omega) hb.2.2.1 (TK.gr hg hs hb), hW.to rfl (fun q => Gen.gw hG hb.2.2.1 (TK.gr hg hs hb) q)⟩, hb.gr hg.1.1 hg.n35, (hg.1.2 r hr).2.2.2.2.2.1.trans h71, hL.trans hL', hcv.gr hg h65⟩
def MOk (B : Nat → Int32) (N : Nat) (c : cd_S) (m : md_S) (O : List Nat) (mc k kl : Nat) (L : List WD) (v : Int32) (c' : cd_S) (b' : cd_B) (x : Int32) (m' : md_S) : Prop :=
  EOk 3 B N c m O mc k kl L v c' b' x m' ∧ ∃ i, i < 900 ∧ x = nI i ∧ ((v = 0 ∧ mA m' 66 i = 6) ∨ (v = 1 ∧ mA m' 66 i ≠ 6))
/-- an operand of the node is set -/
theorem BN.set {c c' : cd_S} {m m' : md_S} {O : List Nat} {mc k kl i fl : Nat} {t x y v : Int32} {lc0 l0 l1 : Nat} {ch : List Nat} {ess : List (List EN)} {ns : List Nat} {pre : List EN} (h : BN c c' m m' O mc k kl i t x y lc0 l0 l1 ch ess ns pre) (hf : fl = 68 ∨ fl = 69) : BN c c' m (mSA m' fl i v) O mc k kl i t (if fl = 68 then v else x) (if fl = 69 then v else y) lc0 l0 l1 ch ess ns pre := by
  obtain ⟨a1, a2, a3, a4, a5, a6, a7, a8, a9, a10, a11, a12, a13⟩ := h
  obtain ⟨-, q35, q50, -⟩ := a1.nv
  obtain ⟨w1, w2, w3, w4, w5, w6, w7, w8⟩ := a1.now
  have ff : md_fr [68, 69] m' (mSA m' fl i v) := md_fr_SA (md_fr_refl _ _) (by rcases hf with rfl | rfl <;> decide) _ _
  have ff' : md_fr [65, 66, 67, 68, 69, 70, 71, 72, 73] m' (mSA m' fl i v) := md_fr_mono ff (by decide)
  have hi0 : mN m 65 ≤ i := (a3.2.2.2.2.2.1 i (by simp) a3.1).1
  have so : ∀ g j, j ≠ i → mA (mSA m' fl i v) g j = mA m' g j := fun g j hj => by
    by_cases hg : g = fl
    · subst hg; exact mA_SAi hj
    · exact mA_SAo hg
  have n65 : mN (mSA m' fl i v) 65 = mN m' 65 := mN_fr ff (by decide)
  have nd := (List.nodup_cons.mp a3.2.2.2.2.2.2.2.1)
  refine ⟨?_, ?_, ⟨a3.1, by rw [md_frA ff (by decide)]; exact a3.2.1, by rw [md_frA ff (by decide)]; exact a3.2.2.1, ⟨?_, a3.2.2.2.1.2.1, fun z hz => by rw [md_frA ff (by decide)]; exact a3.2.2.2.1.2.2 z hz⟩, ?_, a3.2.2.2.2.2.gr (by omega) (by rw [mN_fr ff (by decide)]; exact Nat.le_refl _)⟩, by rw [md_frA ff (by decide)]; exact a4, ?_, ?_, by rw [mN_fr ff (by decide)]; exact a7, a8, a9, a10, a11, a12, a13.fr ff (by decide) (by decide) (by decide)⟩
  · refine a1.tree ff' (by rw [n65]; exact w7) (by omega) (by rw [n65]; exact a1.2.2.1.2.1) (fun j hj h67 => ?_) (fun j hj => by rw [n65] at hj; rw [md_frA ff (by decide), if_pos hj])
    have hne : j ≠ i := fun e => h67 (by rw [e, a3.2.1, a2.n64])
    exact ⟨so 66 j hne, so 67 j hne, so 68 j hne, so 69 j hne, so 70 j hne, ⟨so 71 j hne, so 72 j hne⟩⟩
  · refine a2.tree ff' (by omega) (fun j hj => ?_)
    have hne : j ≠ i := by omega
    exact ⟨so 66 j hne, so 67 j hne, so 68 j hne, so 69 j hne, so 70 j hne, ⟨so 71 j hne, so 72 j hne⟩⟩
  · rw [md_frA ff (by decide)]
    exact a3.2.2.2.1.1.to (fun z _ => md_frA ff (by decide) z)
  · obtain ⟨f, hfG, haw⟩ := a3.2.2.2.2.1
    have tk : ∀ z n1, (∀ j, j ∈ n1 → j ∈ ns) → TK m' (mSA m' fl i v) z n1 := fun z n1 hn => ⟨fun j hj _ => by
      have hne : j ≠ i := fun e => nd.1 (by rw [← e]; exact hn j hj)
      exact ⟨so 66 j hne, so 67 j hne, so 68 j hne, so 69 j hne, so 70 j hne, fun _ => ⟨so 71 j hne, so 72 j hne⟩⟩, fun q _ => ⟨by rw [aN, aN, md_frA ff (by decide)], fun z _ => by rw [aN, aN, md_frA ff (by decide)]⟩⟩
    refine ⟨f, hfG.to (KP.fr ff (by decide)) q35 (by omega) nd.2 (fun z n1 _ hn => tk z n1 hn), fun k z hz h0 => ?_⟩
    obtain ⟨a, b, e, n3, g1, g2, g3⟩ := GL.at_ hfG (List.mem_of_getElem? hz)
    exact Gen.gw g1 (g3 nd.2) (tk z n3 g2) (haw k z hz h0)
  · rcases hf with rfl | rfl
    · rw [if_pos rfl, mA_SAe]
    · rw [if_neg (by decide), mA_SAo (by decide)]; exact a5
  · rcases hf with rfl | rfl
    · rw [if_neg (by decide), mA_SAo (by decide)]; exact a6
    · rw [if_pos rfl, mA_SAe]
