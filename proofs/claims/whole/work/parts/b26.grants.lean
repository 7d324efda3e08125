/-! all grants in step -/
theorem key_grant : ∀ k, k ∈ vks → ((mWd k = 2 ∧ mVl k = 0) ↔ k = 210) := by decide
theorem nf_raL {n : Nat} {m : md_S} {k pl j : Nat} (h : NF m k pl) : f_X12_readAll_L0 n (j + 1) m = some m := by
  rw [u_X12_readAll_L0, nf_isKey h, bs_some]; rfl
theorem grsL {n : Nat} {C : Nat × Nat} {B : Nat → Int32} {N l : Nat} {c0 : cd_S} {m0 : md_S} (hC : BC C) (hn : 5000 ≤ n) (hK : kB m0 = 8) : ∀ (d j j2 g : Nat) (c : cd_S) (b : cd_B) (m : md_S) (w : WD) (L : List WD), g + d = 9 → d < j → d < j2 → g ≤ 8 → CI C c0 b c b → MI m0 m → LX B N c m w L → PolQ c m g g l →
    OUTL C c0 m0 b (f_X4_readGrants_L29 n j c b (nI g)) (f_X12_readAll_L0 n j2 m) (fun c' b' m' => b' = b ∧ (∃ w' L', LX B N c' m' w' L' ∧ L'.length ≤ L.length ∧ wK w' ≠ 210) ∧ (∃ g', PolQ c' m' g' g' l) ∧ cd_fr gGc [] c c' ∧ md_fr gGm m m' ∧ mI m' 7 = mI m 7) (fun c' b' => b' = b ∧ cd_fr gGc [] c c') := by
  intro d
  induction d with
  | zero => intro j j2 g c b m w L h1 _ _ h2; omega
  | succ d ih =>
  intro j j2 g c b m w L hgd hj hj2 hg8 hc hm h hP
  obtain ⟨j, rfl⟩ : ∃ i, j = i + 1 := ⟨j - 1, by omega⟩
  obtain ⟨j2, rfl⟩ : ∃ i, j2 = i + 1 := ⟨j2 - 1, by omega⟩
  rw [u_X4_readGrants_L29, if_neg (show ¬ (8 : Int32) < nI g from fun y => absurd ((nI_ltI (a := 8) (by decide) (by omega)).mp y) (by omega)), h.k.1, u_X12_readAll_L0, m_isKey h.fine h.mw key_grant, bs_some]
  dsimp only
  by_cases hk : wK w = 210
  · rw [if_pos hk, if_pos hk, if_neg (show ¬ (1 : Int32) = 0 by decide)]
    unfold f_X4_readGrants_J60
    by_cases hg : g < 8
    · rw [if_neg (show ¬ (8 : Int32) ≤ nI g from fun y => absurd ((nI_leI (a := 8) (by decide) (by omega)).mp y) (by omega))]
      refine outl_c c_room1 ?_
      dsimp only
      refine outl_seq (grant_ok hC hn hK hg hc hm h hk hP) ?_ ?_ ?_
      · rintro v c1 b1 x m1 hc1 hm1 ⟨rfl, ⟨w1, L1, hLX, hlen⟩, hP1, f1, g1, s1⟩
        dsimp only
        rw [nI_1]
        obtain ⟨m', e1, e2, e3 | ⟨pl, e3, e4⟩ | e3⟩ := ih j j2 (g + 1) c1 b1 m1 w1 L1 (by omega) (by omega) (by omega) (by omega) hc1.here hm1 hLX hP1
        · obtain ⟨c', b', i, k1, k2, rfl, ⟨w', L', k3, k4, k9⟩, k5, k6, k7, k8⟩ := e3
          exact ⟨m', e1, e2, Or.inl ⟨c', b', i, k1, k2, rfl, ⟨w', L', k3, by omega, k9⟩, k5, cd_fr_tr f1 k6 (fun _ y => ⟨y, y⟩) (fun _ y => ⟨y, y⟩), md_fr_tr g1 k7 (fun _ y => ⟨y, y⟩), k8.trans s1⟩⟩
        · refine ⟨m', e1, e2, Or.inr (Or.inl ⟨pl, ?_, e4⟩)⟩
          rcases e3 with ⟨c', b', i, k1, k2, k3, rfl, k4⟩ | e3
          · exact Or.inl ⟨c', b', i, k1, k2, k3, rfl, cd_fr_tr f1 k4 (fun _ y => ⟨y, y⟩) (fun _ y => ⟨y, y⟩)⟩
          · exact Or.inr e3
        · exact ⟨m', e1, e2, Or.inr (Or.inr e3)⟩
      · rintro v c1 b1 pl hc1 hbw ⟨rfl, f1⟩
        dsimp only
        obtain ⟨j, rfl⟩ : ∃ i, j = i + 1 := ⟨j - 1, by omega⟩
        refine Or.inl ⟨c1, b1, nI g + 1, ?_, hc1.here, hbw, rfl, f1⟩
        rw [u_X4_readGrants_L29, hbw.1, if_neg (show ¬ (1 : Int32) = 210 by decide)]
        split <;> rfl
      · intro x1 m1 k pl a1 a2
        dsimp only
        obtain ⟨j2, rfl⟩ : ∃ i, j2 = i + 1 := ⟨j2 - 1, by omega⟩
        exact ⟨m1, nf_raL a2, a1, a2⟩
    · obtain rfl : g = 8 := by omega
      rw [if_pos (show (8 : Int32) ≤ nI 8 by decide)]
      obtain ⟨c', b', e1, e2⟩ := c_room0 (n := n) hC hc.1 h.k.2.1
      obtain ⟨m', f1, f2, f3⟩ := m_failsW (n := n) (k := 4) h (by decide) (by decide)
      obtain ⟨j2, rfl⟩ : ∃ i, j2 = i + 1 := ⟨j2 - 1, by omega⟩
      refine outl_thr e1 e2 hc (ble.refl _) (m' := m') ?_ (hm.fr f2 (by decide)) f3
      unfold f_X12_grant
      rw [hP.2.2.2.2.1, if_pos (show nI 8 = 8 from rfl), show f_X12_fails n m 4 = _ from f1, bs_some, bs_some]
      exact nf_raL f3
  · rw [if_neg hk, if_neg hk, if_pos rfl]
    exact ⟨m, rfl, hm, Or.inl ⟨c, b, nI g, rfl, hc, rfl, ⟨w, L, h, Nat.le_refl _, hk⟩, ⟨g, hP⟩, cd_fr_refl _ _ _, md_fr_refl _ _, rfl⟩⟩
