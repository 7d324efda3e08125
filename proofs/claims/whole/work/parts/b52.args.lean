/-! arguments, in step -/
theorem sg44 : ∀ k, k ∈ vks → ((mWd k = 5 ∧ mVl k = 44) ↔ k = 44) := by decide
theorem sg40 : ∀ k, k ∈ vks → ((mWd k = 5 ∧ mVl k = 40) ↔ k = 40) := by decide
theorem sg41 : ∀ k, k ∈ vks → ((mWd k = 5 ∧ mVl k = 41) ↔ k = 41) := by decide
/-- what begins no expression is a misfit for the model -/
def NEX (B : Nat → Int32) (N : Nat) (fm : md_S → Option (Int32 × md_S)) : Prop := ∀ (c : cd_S) (m : md_S) (w : WD) (L : List WD), LX B N c m w L → wK w ∉ beL → ∃ m', fm m = some (0, m') ∧ md_fr [6, 7, 8] m m' ∧ NF m' 1 (wF w)
theorem nex_e {n : Nat} {B : Nat → Int32} {N : Nat} {rm : md_R} : NEX B N (fun m => f_X12_e n rm m) := by
  intro c m w L h hb
  obtain ⟨m', f1, f2, f3⟩ := m_deep0 (n := n) h
  refine ⟨m', ?_, f2, f3⟩
  dsimp only
  unfold f_X12_e
  rw [m_be h.mw, if_neg hb, bs_some]
  dsimp only
  rw [f1, bs_some]
  rfl
abbrev TA : Type := cd_S × cd_B × Int32 × Int32 × Int32
abbrev MA : Type := (Int32 × md_S) ⊕ (md_S × Int32 × Int32)
def msA : MA → md_S := fun y => Sum.elim (fun p => p.2) (fun t => t.1) y
theorem argsL {n : Nat} {C : Nat × Nat} {B : Nat → Int32} {N : Nat} {rc : cd_R} {rm : md_R} {a : Int32} {dm kd : Nat} (hC : BC C) (hn : 5000 ≤ n) (hkd : kd ≤ 30) (hx : EX C B N (fun c b => rc 0 0 (a + 1) 0 c b) (fun m => rm 0 0 0 0 m) dm kd 6) (hnx : NFX (fun m => rm 0 0 0 0 m)) (hne : NEX B N (fun m => rm 0 0 0 0 m))
    {c0 c : cd_S} {m0 m : md_S} {O : List Nat} {mc k kl k0 kl0 i : Nat} {t x y : Int32} {lc0 l0 : Nat} {ch : List Nat} {ess : List (List EN)} {ns : List Nat} {pre : List EN} (hs0 : ST c m O mc k0 kl0) (h63 : mI m 63 = nI dm) (hkl : kl ≤ kd) : ∀ (d j jj j2 : Nat) (c1 : cd_S) (b : cd_B) (m1 : md_S) (w : WD) (L1 : List WD) (l1 : Nat) (ch2 : List Nat) (E : List (List EN)) (ns2 : List Nat), j + d = 3 → d + 1 < jj → d + 1 < j2 → CI C c0 b c1 b → MI m0 m1 → LX B N c1 m1 w L1 → BN c c1 m m1 O mc k kl i t x y lc0 l0 l1 (ch ++ ch2) (ess ++ E) (ns ++ ns2) (pre ++ E.flatten) → ch2.length = j →
    OUTX C c0 m0 b (fun (r : TA) => r.1) (fun (r : TA) => r.2.1) msA (f_X4_readArguments_L30 n rc a (jj + 1) c1 b (nI j) 1 (nI j)) (f_X12_arguments_L25 n rm (nI i) (j2 + 1) m1 (nI j) 1)
      (fun r y' => ∃ w' L' j' l1 ch2 E ns2 mm, y' = Sum.inr (mm, nI j', 0) ∧ r.2.2.1 = nI j' ∧ j' ≤ 3 ∧ LX B N r.1 mm w' L' ∧ L'.length ≤ L1.length ∧ KP m1 mm ∧ ch2.length = j' ∧ BN c r.1 m mm O mc k kl i t x y lc0 l0 l1 (ch ++ ch2) (ess ++ E) (ns ++ ns2) (pre ++ E.flatten)) (fun _ => True) := by
  intro d
  induction d with
  | zero =>
    intro j jj j2 c1 b m1 w L1 l1 ch2 E ns2 hd hjj hj2 hc hm h hbn hch
    obtain rfl : j = 3 := by omega
    rw [u_X4_readArguments_L30, if_neg ne10, if_neg (show ¬ (3 : Int32) < nI 3 by decide), c_be h.k.1, cbe_v _ h.v, bs_some, u_X12_arguments_L25, if_neg ne10, m_fine, bs_some, if_pos h.fine]
    dsimp only
    rw [if_neg ne10, if_pos (show nI 3 = (3 : Int32) from rfl), m_be h.mw, bs_some]
    dsimp only
    by_cases hb : wK w ∈ beL
    · rw [if_pos hb, if_neg ne10]
      refine outx_c c_need1 ?_
      dsimp only
      rw [if_pos (show (3 : Int32) ≤ nI 3 by decide)]
      unfold f_X4_readArguments_J62
      obtain ⟨c', b', e1, e2⟩ := c_room0 (n := n) hC hc.1 h.k.2.1
      obtain ⟨m', f1, f2, f3⟩ := m_failsW (n := n) (k := 4) h (by decide) (by decide)
      refine outx_thr (y := Sum.inl (nI 3, m')) e1 e2 hc (ble.refl _) ?_ (hm.fr f2 (by decide)) f3
      rw [show f_X12_fails n m1 4 = _ from f1, bs_some]
    · rw [if_neg hb, if_pos rfl]
      obtain ⟨c', b', e1, e2⟩ := c_need0 (n := n) hC hc.1 h.k.2.1
      obtain ⟨m', f1, f2, f3⟩ := m_misfit (n := n) h
      refine outx_thr (y := Sum.inl (nI 3, m')) e1 e2 hc (ble.refl _) ?_ (hm.fr f2 (by decide)) f3
      rw [f1, bs_some]
  | succ d ih =>
    intro j jj j2 c1 b m1 w L1 l1 ch2 E ns2 hd hjj hj2 hc hm h hbn hch
    obtain ⟨jj, rfl⟩ : ∃ q, jj = q + 1 := ⟨jj - 1, by omega⟩
    obtain ⟨j2, rfl⟩ : ∃ q, j2 = q + 1 := ⟨j2 - 1, by omega⟩
    have nfL : ∀ (q : md_S) (l3 v : Int32) (k2 pl : Nat), MI m0 q → NF q k2 pl → ∃ y', f_X12_arguments_L25 n rm (nI i) (j2 + 1) q v l3 = some y' ∧ MI m0 (msA y') ∧ NF (msA y') k2 pl := by
      intro q l3 v k2 pl h1 h2
      rw [u_X12_arguments_L25]
      by_cases h3 : l3 = 0
      · rw [if_pos h3]; exact ⟨_, rfl, h1, h2⟩
      · rw [if_neg h3, nf_isFine h2, bs_some]; exact ⟨_, rfl, h1, h2⟩
    have nfB : ∀ (x2 : Int32) (q : md_S) (k2 pl : Nat), MI m0 q → NF q k2 pl → ∃ y', (Option.bind (f_X12_gets n q (nI i) x2) fun p5 => Option.bind (f_X12_isSign n p5.2 (44 : Int32)) fun p6 => if p6.1 = 0 then (f_X12_arguments_L25 n rm (nI i) (j2 + 1) p6.2 (nI j + 1) (p6.1)) else (Option.bind (f_X12_next n p6.2) fun p7 => f_X12_arguments_L25 n rm (nI i) (j2 + 1) p7.2 (nI j + 1) (p6.1))) = some y' ∧ MI m0 (msA y') ∧ NF (msA y') k2 pl := by
      intro x2 q k2 pl h1 h2
      rw [nf_gets h2, bs_some]
      dsimp only
      rw [nf_isSign h2, bs_some]
      dsimp only
      rw [if_pos rfl]
      exact nfL q 0 (nI j + 1) k2 pl h1 h2
    rw [u_X4_readArguments_L30, if_neg ne10, if_neg (show ¬ (3 : Int32) < nI j from fun y => absurd ((nI_ltI (a := 3) (by decide) (by omega)).mp y) (by omega)), c_be h.k.1, cbe_v _ h.v, bs_some, u_X12_arguments_L25, if_neg ne10, m_fine, bs_some, if_pos h.fine]
    dsimp only
    rw [if_neg ne10, if_neg (show ¬ nI j = (3 : Int32) from fun y => absurd ((nI_eq (b := 3) (by omega) (by decide)).mp y) (by omega))]
    by_cases hb : wK w ∈ beL
    · rw [if_pos hb]
      refine outx_c c_need1 ?_
      dsimp only
      rw [if_neg (show ¬ (3 : Int32) ≤ nI j from fun y => absurd ((nI_leI (a := 3) (by decide) (by omega)).mp y) (by omega))]
      unfold f_X4_readArguments_J62
      refine outx_c c_room1 ?_
      dsimp only
      refine outx_seq (hx c0 m0 c1 m1 b w L1 O mc k kl hc hm h (hbn.1.debt (by omega) (by omega) (Nat.le_refl _)) (hbn.2.1.n63.trans h63) hkl) ?_ ?_ (fun x2 q k2 pl h1 h2 => nfB x2 q k2 pl h1 h2)
      · intro v2 c2 b2 x2 m2 hc2 hm2 hE2
        dsimp only
        obtain ⟨r2, es2, l2, n2, m3, g1, hbn3, g3, hkp, w3, L3, hX3, hl3⟩ := hbn.read hn hs0 hE2 (by omega) (fun _ => by omega)
        have hm3 : MI m0 m3 := hm2.fr g3 (by decide)
        rw [List.append_assoc, List.append_assoc, List.append_assoc, List.append_assoc] at hbn3
        have hbn3' : BN c c2 m m3 O mc k kl i t x y lc0 l0 l2 (ch ++ (ch2 ++ [r2])) (ess ++ (E ++ [es2])) (ns ++ (ns2 ++ n2)) (pre ++ (E ++ [es2]).flatten) := by
          have e : (E ++ [es2]).flatten = E.flatten ++ es2 := by simp
          rw [e]; exact hbn3
        rw [g1, bs_some]
        dsimp only
        rw [m_isSign hX3.fine hX3.mw sg44, bs_some, hX3.k.1]
        dsimp only
        unfold f_X4_readArguments_J92 f_X4_readArguments_J104
        rw [nI_1]
        by_cases h44 : wK w3 = 44
        · rw [if_pos h44, if_pos h44, if_neg ne10, if_neg ne10]
          obtain ⟨c4, m4, a1, a2, a3, a4, ⟨w4, L4, hL4, a5⟩, a6⟩ := adv_ok (n := n) hn hX3 (by rw [h44]; decide)
          rw [a1, bs_some, a2, bs_some]
          dsimp only
          have hc4 : CI C c0 b2 c4 b2 := hc2.here.fr a3 (by decide)
          have hm4 : MI m0 m4 := hm3.fr a4 (by decide)
          rcases a5 with hX4 | ⟨hbw, hnf⟩
          · have hbn4 := hbn3'.adv hs0 a3 a4 (a6 hX4.fine)
            obtain ⟨y', q1, q2, q3 | ⟨pl, q3, q4⟩ | q3⟩ := ih (j + 1) jj j2 c4 b2 m4 w4 L4 l2 (ch2 ++ [r2]) (E ++ [es2]) (ns2 ++ n2) (by omega) (by omega) (by omega) hc4 hm4 hX4 hbn4 (by simp [hch])
            · obtain ⟨r, y1, y2, w', L', j', l1', ch2', E', ns2', mm, y3, y4, y5, y6, y7, y9, y8⟩ := q3
              exact ⟨y', q1, q2, Or.inl ⟨r, y1, y2, w', L', j', l1', ch2', E', ns2', mm, y3, y4, y5, y6, by rw [hL4] at hl3; simp at hl3; omega, (hkp.tr (KP.fr a4 (by decide))).tr y9, y8⟩⟩
            · exact ⟨y', q1, q2, Or.inr (Or.inl ⟨pl, q3, q4⟩)⟩
            · exact ⟨y', q1, q2, Or.inr (Or.inr q3)⟩
          · obtain ⟨y', q1, q2, q3⟩ := nfL m4 1 (nI (j + 1)) 1 (wF w4) hm4 hnf
            refine ⟨y', q1, q2, Or.inr (Or.inl ⟨wF w4, ?_, q3⟩)⟩
            obtain ⟨c', b', e1, e2⟩ := c_need0 (n := n) hC hc4.1 hbw.2
            refine Or.inr ⟨c', b', ?_, e2.tx hc4⟩
            rw [u_X4_readArguments_L30, if_neg ne10, if_neg (show ¬ (3 : Int32) < nI (j + 1) from fun y => absurd ((nI_ltI (a := 3) (by decide) (by omega)).mp y) (by omega)), c_be hbw.1, bs_some, show f_X4_need n c4 b2 (if (1 : Int32) = 213 ∨ (1 : Int32) = 215 ∨ (1 : Int32) = 218 then 1 else if cbp 1 = 0 then 0 else 1) = _ from e1, bs_some]
            exact ckx_inl (bd := fun (r : TA) => r.2.1) rfl (ble.refl _)
        · rw [if_neg h44, if_neg h44, if_pos rfl, if_pos rfl, u_X4_readArguments_L30, if_pos rfl, u_X12_arguments_L25, if_pos rfl]
          exact ⟨_, rfl, hm3, Or.inl ⟨_, rfl, hc2.here, w3, L3, j + 1, l2, ch2 ++ [r2], E ++ [es2], ns2 ++ n2, m3, rfl, rfl, by omega, hX3, by omega, hkp, by simp [hch], hbn3'⟩⟩
      · rintro v2 c2 b2 pl hc2 hbw ⟨hcs, hle⟩
        dsimp only
        unfold f_X4_readArguments_J92 f_X4_readArguments_J104
        rw [hbw.1, if_neg (show ¬ (1 : Int32) = 44 by decide), if_pos rfl, u_X4_readArguments_L30, if_pos rfl]
        exact Or.inl ⟨_, rfl, hc2.here, hbw, trivial⟩
    · rw [if_neg hb]
      obtain ⟨c', b', e1, e2⟩ := c_need0 (n := n) hC hc.1 h.k.2.1
      obtain ⟨m', f1, f2, f3⟩ := hne c1 m1 w L1 h hb
      obtain ⟨y', q1, q2, q3⟩ := nfB 0 m' 1 (wF w) (hm.fr f2 (by decide)) f3
      refine outx_thr (y := y') e1 e2 hc (ble.refl _) ?_ q2 q3
      rw [show rm 0 0 0 0 m1 = _ from f1, bs_some]
      exact q1
