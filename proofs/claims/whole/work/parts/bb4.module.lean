/-! a module, head and all -/
theorem key_module : ∀ k, k ∈ vks → ((mWd k = 2 ∧ mVl k = 1) ↔ k = 211) := by decide
theorem md_hat {L : List Nat} {s t : md_S} {k : Nat} {v : Int32} (h : md_fr L s t) : md_fr L (mSI s k v) (mSI t k v) := fun j hj => by
  have hh := h j hj
  refine ⟨?_, hh.2.1, hh.2.2.1, hh.2.2.2⟩
  show (if j = k then v else s.1 j) = (if j = k then v else t.1 j)
  rw [hh.1]
theorem OPv.imp {C : Nat × Nat} {c0 : cd_S} {b : cd_B} {fc : Option Th} {pl : Nat} {Pn Pn2 : cd_S → cd_B → Prop} (h : OPv C c0 b fc pl Pn) (hP : ∀ c' b', Pn c' b' → Pn2 c' b') : OPv C c0 b fc pl Pn2 := by
  rcases h with ⟨v, c', b', e, h1, h2, h3⟩ | h
  · exact Or.inl ⟨v, c', b', e, h1, h2, hP _ _ h3⟩
  · exact Or.inr h
theorem OUTV.imp {Q : md_S → Prop} {C : Nat × Nat} {c0 : cd_S} {b : cd_B} {fc : Option Th} {fm : Option (Int32 × md_S)} {Ok Ok2 : Int32 → cd_S → cd_B → Int32 → md_S → Prop} {Pn Pn2 : cd_S → cd_B → Prop} (h : OUTV Q C c0 b fc fm Ok Pn) (hO : ∀ v c' b' x m', Ok v c' b' x m' → Ok2 v c' b' x m') (hP : ∀ c' b', Pn c' b' → Pn2 c' b') : OUTV Q C c0 b fc fm Ok2 Pn2 := by
  obtain ⟨x, m', e1, e2, h | ⟨pl, h, hn⟩ | h⟩ := h
  · obtain ⟨v, c', b', e, h1, h2⟩ := h
    exact ⟨x, m', e1, e2, Or.inl ⟨v, c', b', e, h1, hO _ _ _ _ _ h2⟩⟩
  · exact ⟨x, m', e1, e2, Or.inr (Or.inl ⟨pl, h.imp hP, hn⟩)⟩
  · exact ⟨x, m', e1, e2, Or.inr (Or.inr h)⟩
def PMu : List Nat := [20, 1000] ++ PMw
theorem fMv {m0 : md_S} {F : List Nat} {x y : md_S} (h1 : Qv m0 x) (h2 : md_fr F x y) (h3 : ∀ k, k ∈ F → k ∈ PMu) : Qv m0 y := ⟨md_fr_tr h1.1 h2 (fun k hk => ⟨hk, fun y => hk (by
  rcases List.mem_append.mp (h3 k y) with z | z
  · rcases List.mem_cons.mp z with z | z
    · rw [z]; decide
    · rw [List.mem_singleton.mp z]; decide
  · exact List.mem_append_right _ z)⟩), h1.2.tr (KM.of h2 (fun y => absurd (h3 _ y) (by decide)) (fun y => absurd (h3 _ y) (by decide)) (fun y => absurd (h3 _ y) (by decide)))⟩
theorem fMq {m0 x y : md_S} {p : Nat} (h1 : Qv m0 x) (h2 : QP x p y) (hp : p < 264) : Qv m0 y := ⟨md_fr_tr h1.1 h2.1 (fun _ hk => ⟨hk, nin (by decide) hk⟩), h1.2.tr (fun x hx => h2.2 x (by omega))⟩
theorem fMw {m0 x y : md_S} (h1 : Qv m0 x) (h2 : MIw x y) : Qv m0 y := ⟨md_fr_tr h1.1 h2.1 (fun _ y => ⟨y, y⟩), h1.2.tr h2.2.2.2⟩
theorem module_ok {n : Nat} {C : Nat × Nat} {B : Nat → Int32} {N : Nat} {c0 c : cd_S} {m0 m : md_S} {b : cd_B} {w : WD} {L : List WD} {d : Nat} (hC : BC C) (hn : 5000 ≤ n) (hc : CIv C c0 b c b) (hm : Qv m0 m) (h : LX B N c m w L) (hk : wK w = 211) (hs : MST c m d) :
    OUTV (Qv m0) C c0 b (f_X4_readModule n c b) (f_X12_readModule n m) (MDk B N L (d + 1)) (fun _ _ => d < 8) := by
  obtain ⟨hO, ⟨g, l, hP, hD⟩, hsl⟩ := hs
  obtain ⟨c1, m1, a1, a2, a3, a4, ⟨w1, L1, hL1, a5⟩, a6⟩ := adv_ok (n := n) hn h (by rw [hk]; decide)
  have hkey : f_X12_key n m 1 = some (0, m1) := by
    unfold f_X12_key
    rw [m_isKey h.fine h.mw key_module, bs_some, if_pos hk]
    dsimp only
    rw [if_neg (by decide), a2, bs_some]
  have hc1 : CIv C c0 b c1 b := hc.fr a3 (by decide)
  have hm1 := fMv hm a4 (by decide)
  unfold f_X4_readModule f_X12_readModule
  refine outv_ck ?_
  rw [a1, bs_some, hkey, bs_some]
  dsimp only
  rcases a5 with hX1 | ⟨hbw, hnf⟩
  · rcases m_isName (n := n) hX1 with ⟨hk2, e1⟩ | ⟨hk2, m', e1, e2, e3⟩
    · have hO1 := hO.adv a3 a4
      have hnm : NR (wX w1) (mJ m1 12) := hX1.mw.2.2.2.2.2.1 hk2
      have hO1' := hO1
      obtain ⟨-, -, -, -, -, -, -, -, -, hMD, -, -, -, hu1, -⟩ := hO1'
      have hMD' := hMD
      obtain ⟨hd8, h74, h25, -⟩ := hMD'
      have hP1 : PolQ c1 m1 g g l := hP.fr a3 a4 (by decide) (by decide)
      refine outv_c (c_needName1 (by rw [hX1.k.1]; exact hk2)) ?_
      dsimp only
      rw [e1, bs_some]
      dsimp only
      rw [if_neg ne10, h74, h25]
      by_cases hd : d = 8
      · subst hd
        rw [if_pos (show (8 : Int32) ≤ nI 8 by decide), if_pos (show nI 8 = (8 : Int32) from rfl)]
        unfold f_X4_readModule_J29
        obtain ⟨c', b', t1, t2⟩ := c_room0 (n := n) hC hc1.1 hX1.k.2.1
        obtain ⟨m', f1, f2, f3⟩ := m_failsW (n := n) (k := 4) hX1 (by decide) (by decide)
        exact outv_thr t1 t2 hc1 (ble.refl _) (x := 0) (m' := m') (by rw [show f_X12_fails n m1 4 = _ from f1, bs_some]) (fMv hm1 f2 (by decide)) f3
      · have hd8 : d < 8 := by omega
        rw [if_neg (show ¬ (8 : Int32) ≤ nI d from fun y => absurd ((nI_leI (a := 8) (by decide) (by omega)).mp y) (by omega)), if_neg (show ¬ nI d = (8 : Int32) from fun y => absurd ((nI_eq (b := 8) (by omega) (by decide)).mp y) (by omega))]
        unfold f_X4_readModule_J29
        refine outv_c c_room1 ?_
        dsimp only
        rw [hX1.k.2.2]
        rcases mod_ok (n := n) hn hMD hnm with ⟨x, x1, x2, x3⟩ | ⟨x2, x3⟩
        · rw [x2, bs_some, x3, bs_some]
          dsimp only
          rw [if_neg (nI_nem1 (a := x) (by omega)), if_neg (nI_nem1 (a := x) (by omega)), hX1.k.2.1]
          obtain ⟨c', b', t1, t2⟩ := c_refuse (n := n) (k := 2) (pl := wF w1) hC hc1.1
          obtain ⟨m', f1, f2, f3⟩ := m_failsW (n := n) (k := 2) hX1 (by decide) (by decide)
          exact outv_thr (show f_X4_refuse n c1 b 2 (nI (wF w1)) = _ from t1) t2 hc1 (ble.refl _) (x := 0) (m' := m') (by rw [show f_X12_fails n m1 2 = _ from f1, bs_some]) (fMv hm1 f2 (by decide)) f3
        · rw [x2, bs_some, x3, bs_some]
          dsimp only
          rw [if_pos rfl, if_pos rfl]
          unfold f_X4_readModule_J62
          obtain ⟨q, q1, q2⟩ := c_addModule (n := n) (c := c1) (v := wX w1) hd8 h74
          rw [hX1.k.2.2, q1, bs_some]
          dsimp only
          rw [bs_some, q2, m_st26 hd8, bs_some, m_st27 hd8, bs_some, m_st28 hd8, bs_some, m_st30 hd8, bs_some, show (0 : Int32) + nI d = nI d from by rw [show (0 : Int32) = nI 0 from rfl, nI_add, Nat.zero_add]]
          obtain ⟨c2, hc2⟩ : ∃ z, z = amE c1 d (wX w1) := ⟨_, rfl⟩
          obtain ⟨m2, hm2⟩ : ∃ z, z = nmE m1 d (mJ m1 12) := ⟨_, rfl⟩
          have hm2' : mSA (mSA (mSA (mSL m1 26 d (mJ m1 12)) 27 d (-1)) 28 d 0) 30 d 0 = m2 := hm2.symm
          rw [← hc2, hm2']
          have fc2 : cd_fr [67, 68, 70, 71, 73, 74, 137] [] c1 c2 := by rw [hc2]; exact amE_fr _ _ _
          have fm2 : md_fr [26, 27, 28, 30] m1 m2 := by rw [hm2]; exact nmE_fr _ _ _
          have hX2 : LX B N c2 m2 w1 L1 := hX1.fr fc2 fm2 (by decide) (by decide) (by decide)
          have hO2 : OST c2 (mSI m2 25 (nI (d + 1))) (d + 1) := by rw [hc2, hm2]; exact hO1.new hd8 hnm
          have d2 : cI c2 137 0 = nI d := by rw [hc2, amE, cI_SIe]
          have y28 : mA m2 28 d = 0 := by rw [hm2, nmE, mA_SAo (by decide), mA_SAe]
          have y30 : mA m2 30 d = 0 := by rw [hm2, nmE, mA_SAe]
          clear hc2 hm2 hm2' q1 q2
          obtain ⟨c3, m3, g1, g2, g3, g4, ⟨w3, L3, hL3, g5⟩, g6⟩ := adv_ok (n := n) hn hX2 (by rw [hk2]; decide)
          rw [g1, bs_some, g2, bs_some]
          dsimp only
          have hc3 : CIv C c0 b c3 b := (hc1.fr fc2 (by decide)).fr g3 (by decide)
          have hm3 := fMv (fMv hm1 fm2 (by decide)) g4 (by decide)
          have hcc3 : CI C c3 b c3 b := ⟨hc3.1, ble.refl _, CF.refl _ _⟩
          rcases g5 with hX3 | ⟨hbw, hnf⟩
          · have hO3 := hO2.adv g3 (md_hat g4)
            have hP3 : PolQ c3 m3 g g l := (hP1.fr fc2 fm2 (by decide) (by decide)).fr g3 g4 (by decide) (by decide)
            have fcc : cd_fr [67, 68, 70, 71, 73, 74, 137, 327, 328, 329, 330] [] c c3 := cd_fr_tr (cd_fr_tr a3 fc2 (L3 := [67, 68, 70, 71, 73, 74, 137, 327, 328, 329, 330]) (R3 := []) (fun k hk => ⟨nin (by decide) hk, nin (by decide) hk⟩) (fun _ y => ⟨y, y⟩)) g3 (fun k hk => ⟨hk, nin (by decide) hk⟩) (fun _ y => ⟨y, y⟩)
            have fmm : md_fr [6, 7, 8, 9, 10, 11, 12, 13, 14, 15, 26, 27, 28, 30] m m3 := md_fr_tr (md_fr_tr a4 fm2 (L3 := [6, 7, 8, 9, 10, 11, 12, 13, 14, 15, 26, 27, 28, 30]) (fun k hk => ⟨nin (by decide) hk, nin (by decide) hk⟩)) g4 (fun k hk => ⟨hk, nin (by decide) hk⟩)
            have hSS : ∀ x, SS m m3 x := fun x => ⟨md_frA fmm (by decide) x, md_frA fmm (by decide) x, fun _ _ => md_frL fmm (by decide) _⟩
            have hD3 : DTc c3 (fun i => mskF m3 i g) d := hD.to (fun i _ => mskF_ss (fun x _ => hSS _) (hSS i) g hP.1) (cd_frI fcc (by decide) (by decide) 0) (fun t => cd_frA fcc (by decide) (by decide) 0 t) (fun t => cd_frA fcc (by decide) (by decide) 0 t)
            have hd3 : cI c3 137 0 = nI d := by rw [cd_frI g3 (by decide) (by decide)]; exact d2
            refine outv_seq ((pat_okw (n := n) (p := d) (pl := 1) hC hn hcc3 hX3 (by omega) (Or.inr rfl)).v (Q2 := QP m3 d) hc3.2.2 (fun _ y => y) (fun _ _ _ _ _ _ _ y => y)) ?_ ?_ ?_
            · rintro v4 c4 b4 x4 m4 hc4 hm4 ⟨rfl, ⟨w4, L4, hL4, hX4⟩, r1, r2, r3, r4, r5, r6, r7⟩
              dsimp only
              have hd4 : cI c4 137 0 = nI d := by rw [cd_frI r5 (by decide) (by decide)]; exact hd3
              obtain ⟨c5, p1, p2, p3, p4⟩ := plc (n := n) hn hd8 hP3 hD3 r3 r4 r1 r5
              rw [hd4, p1, bs_some]
              dsimp only
              have fm14 : md_fr [6, 7, 8, 9, 10, 11, 12, 13, 14, 15, 17, 18, 19, 26, 27, 28, 30] m1 m4 := md_fr_tr (md_fr_tr fm2 g4 (L3 := [6, 7, 8, 9, 10, 11, 12, 13, 14, 15, 17, 18, 19, 26, 27, 28, 30]) (fun k hk => ⟨nin (by decide) hk, nin (by decide) hk⟩)) r6 (fun k hk => ⟨hk, nin (by decide) hk⟩)
              have hO4 := hO3.pat (m' := mSI m4 25 (nI (d + 1))) hd8 r3 (fun x hx => r4 x hx) r5 (md_hat r6)
              have hO5 := hO4.place hd8 p4 (fun i hi => by
                have e35 : mN (mSI m4 25 (nI (d + 1))) 35 = mN m1 35 := by unfold mN; rw [mI_SIo (by decide), md_frI fm14 (by decide)]
                rw [e35] at hi
                obtain ⟨x, z1, z2⟩ := hu1 i hi
                exact ⟨x, z1, by rw [mA_SI, md_frA fm14 (by decide)]; exact z2⟩) p2 (md_fr_refl _ _)
              refine (mrest_ok (n := n) (d := d) (g := g) hC hn (hc4.here.fr p2 (by decide)) (fMq hm3 hm4 (by omega)) (hX4.fr p2 (md_fr_refl _ []) (by decide) (by decide) (by decide)) hd8 hO5 (by rw [md_frI fm14 (by decide)]; exact h25) (by rw [cd_frI p2 (by decide) (by decide)]; exact hd4) (by rw [md_frA r6 (by decide), md_frA g4 (by decide)]; exact y28) (by rw [md_frA r6 (by decide), md_frA g4 (by decide)]; exact y30) (by rw [md_frI r6 (by decide)]; exact hP3.2.2.2.2.1) hP.1 p3 (fun i hi => ?_)).imp ?_ (fun _ _ _ => hd8)
              · by_cases hid : i = d
                · rw [hid]; exact r1.slt
                · exact ((hsl i (by omega)).ss (hSS i)).ss (r4 i hid)
              · rintro v8 c8 b8 x8 m8 ⟨z1, w8, L8, z2, z3⟩
                exact ⟨z1, w8, L8, z2, by rw [hL1, hL3, hL4]; simp; omega⟩
            · rintro v4 c4 b4 pl hc4 hbw ⟨rfl, r5, r3, m4, r1, r4, r6⟩
              dsimp only
              have hd4 : cI c4 137 0 = nI d := by rw [cd_frI r5 (by decide) (by decide)]; exact hd3
              obtain ⟨c5, p1, p2, p3, p4⟩ := plc (n := n) hn hd8 hP3 hD3 r3 r4 r1 r5
              rw [hd4, p1, bs_some]
              dsimp only
              have hbw5 : BW c5 pl := bw_fr hbw p2 (by decide) (by decide)
              have hc5 : CIv C c0 b4 c5 b4 := hc4.here.fr p2 (by decide)
              rw [hbw5.1, if_neg (show ¬ (1 : Int32) = 58 by decide)]
              unfold f_X4_readModule_J123
              exact (op_seq (c0 := c5) (Pn1 := fun _ _ => False) (pass_bw hC ⟨hc5.1, ble.refl _, CF.refl _ _⟩ hbw5 (by decide)) (fun _ _ _ _ _ y => y.elim)).v hc5.2.2
            · intro x4 z k pl h1 h2
              dsimp only
              rw [nf_isSign h2, bs_some]
              dsimp only
              rw [if_pos rfl]
              obtain ⟨y, m6, y1, y2, y3⟩ := nfJ145 (n := n) (m0 := z) (l1 := nI d) hn ⟨md_fr_refl _ _, KS.refl _ _⟩ h2
              exact ⟨y, m6, y1, fMw (fMq hm3 h1 (by omega)) y2, y3⟩
          · obtain ⟨y, m6, y1, y2, y3⟩ := nfJ145 (n := n) (m0 := m3) (l1 := nI d) hn ⟨md_fr_refl _ _, KS.refl _ _⟩ hnf
            refine ⟨y, m6, ?_, fMw hm3 y2, Or.inr (Or.inl ⟨wF w3, ?_, y3⟩)⟩
            · rw [nf_pattern hnf, bs_some]
              dsimp only
              rw [nf_isSign hnf, bs_some]
              dsimp only
              rw [if_pos rfl]
              exact y1
            · exact (op_seq (c0 := c3) (Pn1 := fun _ _ => False) (pat_bw hC hcc3 hbw) (fun _ _ _ _ _ y => y.elim)).v hc3.2.2
    · obtain ⟨c', b', t1, t2⟩ := c_needName0 (n := n) hC hc1.1 hX1.k.2.1 (by rw [hX1.k.1]; exact hk2)
      refine outv_thr t1 t2 hc1 (ble.refl _) (x := 0) (m' := m') ?_ (fMv hm1 e2 (by decide)) e3
      rw [e1, bs_some]
      rfl
  · obtain ⟨c', b', t1, t2⟩ := c_needName0 (n := n) hC hc1.1 hbw.2 (by rw [hbw.1]; decide)
    refine outv_thr t1 t2 hc1 (ble.refl _) (x := 0) (m' := m1) ?_ hm1 hnf
    rw [nf_isName hnf, bs_some]
    rfl
