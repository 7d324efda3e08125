/-! the fields of a module in step -/
theorem key_field : ∀ k, k ∈ vks → ((mWd k = 2 ∧ mVl k = 2) ↔ k = 212) := by decide
theorem nf_fieldL {n : Nat} {m : md_S} {k pl j : Nat} {l1 : Int32} (h : NF m k pl) : f_X12_readModule_L161 n l1 (j + 1) m = some m := by
  rw [u_X12_readModule_L161, nf_isKey h, bs_some]
  rfl
theorem bw_fieldL {n : Nat} {c : cd_S} {b : cd_B} {pl j : Nat} {l1 : Int32} (h : BW c pl) : f_X4_readModule_L131 n (j + 1) c b l1 = some (Sum.inr (c, b, l1)) := by
  rw [u_X4_readModule_L131]
  split
  · rfl
  · rw [h.1, if_neg (by decide)]
theorem fieldsL {n : Nat} {C : Nat × Nat} {B : Nat → Int32} {N : Nat} {c0 : cd_S} {m0 : md_S} {mc d : Nat} (hC : BC C) (hn : 5000 ≤ n) (hdm : d + 1 = mc) : ∀ (e j j2 x : Nat) (c : cd_S) (b : cd_B) (m : md_S) (w : WD) (L : List WD), x + e = 5 → e < j → e < j2 → CI C c0 b c b → MIw m0 m → LX B N c m w L → OST c m mc → cI c 137 0 = nI d → aN m 28 d = x →
    OUTLG (MIw m0) C c0 b (f_X4_readModule_L131 n j c b (nI x)) (f_X12_readModule_L161 n (nI d) j2 m) (fun c' _ m' => OST c' m' mc ∧ (∃ w' L', LX B N c' m' w' L' ∧ L'.length ≤ L.length ∧ wK w' ≠ 212) ∧ cI c' 137 0 = nI d ∧ aN m' 30 d = aN m 30 d) (fun _ _ => True) := by
  intro e
  induction e with
  | zero =>
    intro j j2 x c b m w L hx hj hj2 hc hm h hs hd h28
    exfalso
    obtain ⟨-, -, -, -, -, -, -, -, -, ⟨hmc8, -, -, hq⟩, -⟩ := hs
    obtain ⟨-, -, -, ⟨k, k1, k2, k3, -⟩, -⟩ := hq d (by omega)
    rw [aN_of k3 (by omega)] at h28
    omega
  | succ e ih =>
    intro j j2 x c b m w L hx hj hj2 hc hm h hs hd h28
    obtain ⟨j, rfl⟩ : ∃ q, j = q + 1 := ⟨j - 1, by omega⟩
    obtain ⟨j2, rfl⟩ : ∃ q, j2 = q + 1 := ⟨j2 - 1, by omega⟩
    rw [u_X4_readModule_L131, if_neg (show ¬ (4 : Int32) < nI x from Int32.not_lt.mpr ((nI_leI (b := 4) (by omega) (by omega)).mpr (by omega))), h.k.1, u_X12_readModule_L161, m_isKey h.fine h.mw key_field, bs_some]
    dsimp only
    by_cases hk : wK w = 212
    · rw [if_pos hk, if_pos hk, if_neg ne10]
      have e1 : (Option.bind (f_X12_next n m) fun p4 => Option.bind (f_X12_readField n p4.2 (nI d)) fun p5 => Option.bind (f_X12_sign n p5.2 (59 : Int32)) fun p6 => f_X12_readModule_L161 n (nI d) j2 p6.2) = Option.bind (Option.bind (f_X12_next n m) fun p4 => Option.bind (f_X12_readField n p4.2 (nI d)) fun p5 => f_X12_sign n p5.2 (59 : Int32)) fun p6 => f_X12_readModule_L161 n (nI d) j2 p6.2 := by
        rw [Option.bind_assoc]
        congr 1
        funext p4
        rw [Option.bind_assoc]
      rw [e1]
      refine outlg_seq (field_ok (n := n) hC hn hc hm h (by rw [hk]; decide) hs hd hdm) ?_ ?_ ?_
      · rintro v c1 b1 x1 m1 hc1 hm1 ⟨a1, ⟨w1, L1, a2, a3⟩, a4, a5, a6⟩
        dsimp only
        rw [nI_1]
        have := ih j j2 (x + 1) c1 b1 m1 w1 L1 (by omega) (by omega) (by omega) hc1.here hm1 a2 a1 a4 (by omega)
        obtain ⟨m', y1, y2, y | y | y⟩ := this
        · obtain ⟨c', b', i, z1, z2, z3, ⟨w', L', z4, z5, z6⟩, z7, z8⟩ := y
          exact ⟨m', y1, y2, Or.inl ⟨c', b', i, z1, z2, z3, ⟨w', L', z4, by omega, z6⟩, z7, z8.trans a6⟩⟩
        · exact ⟨m', y1, y2, Or.inr (Or.inl y)⟩
        · exact ⟨m', y1, y2, Or.inr (Or.inr y)⟩
      · rintro v c1 b1 pl hc1 hbw -
        dsimp only
        obtain ⟨j, rfl⟩ : ∃ q, j = q + 1 := ⟨j - 1, by omega⟩
        exact Or.inl ⟨c1, b1, _, bw_fieldL hbw, hc1.here, hbw, trivial⟩
      · intro x1 m1 k pl h1 h2
        dsimp only
        obtain ⟨j2, rfl⟩ : ∃ q, j2 = q + 1 := ⟨j2 - 1, by omega⟩
        exact ⟨m1, nf_fieldL h2, h1, h2⟩
    · rw [if_neg hk, if_neg hk, if_pos rfl]
      exact ⟨m, rfl, hm, Or.inl ⟨c, b, nI x, rfl, hc, hs, ⟨w, L, h, Nat.le_refl _, hk⟩, hd, rfl⟩⟩
