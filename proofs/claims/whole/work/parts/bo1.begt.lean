/-! a frame begins, whatever the things are -/
def GLBT (n mx d Z : Nat) (c : cd_S) (m : md_S) (c1 : cd_S) (m1 : md_S) (D : PD) (h : HV) (Ls : List (List Int32)) (K Km st : Nat) : Prop :=
  PG n c m d c1 m1 D ∧ (K ≤ 8 ∧ cI c 40 0 = nI K ∧ mI m 105 = nI Km) ∧ (cI c 41 0 = nI st ∧ mI m 89 = nI st ∧ cI c 42 0 = nI mx ∧ mI m 90 = nI mx ∧ st ≤ mx ∧ mx ≤ 4000 ∧ mI m 101 = nI st) ∧
  (cI c 45 0 = mI m 93 ∧ cI c 46 0 = mI m 94 ∧ EVZ c m Z) ∧ (cI c 49 0 = (if h.1 = true then 1 else 0) ∧ mI m 87 = (if h.1 = true then 1 else 0)) ∧
  (CTX c m Ls ∧ h.2.2.2 = Ls.length ∧ Ls.length ≤ st) ∧ (h.1 = false → NDS c m st ∧ h.2.2.1 = st) ∧ True ∧ cI c 44 0 = 0 ∧ mI m 129 = 0
theorem beg_t {n mx d Z K Km st t me T DT u s : Nat} {C : Nat × Nat} {c c1 : cd_S} {b : cd_B} {m m1 : md_S} {D : PD} {h : HV} {Ls : List (List Int32)} {nd cx xb mu gv : Int32} (hn : 40000 ≤ n) (hC : BC C) (hg : GLBT n mx d Z c m c1 m1 D h Ls K Km st) (hB : Bd C c b) (hst : st < mx) (hu : u < mN m1 35) (h50 : cd_dp c 50 0 = some T) (h238 : cd_dp c 238 T = some u) (h232 : cI c 232 T = nI DT) (hDT : DT < 60) (hnn : f_X7_nodeNow n (cSI c 41 0 (nI (st + 1))) t = some (nd, cSI c 41 0 (nI (st + 1)))) (hcc : f_X7_contextNow n (cSI c 41 0 (nI (st + 1))) t = some (cx, cSI c 41 0 (nI (st + 1)))) (hme : mI m 127 = nI me) (hme8 : me < 8) (hT8 : T < 8) (h111 : mA m 111 T = nI DT) (hb : BGN m me h.1 nd cx xb) (hs : mA m 36 u = nI s) (hs4 : s ≤ 4) (hnd : h.1 = false → nd = -1 ∨ ∃ y, y < h.2.2.1 ∧ nd = nI y) (hcx : cx = -1 ∨ ∃ y, y < h.2.2.2 ∧ cx = nI y) (hgv : cI c 241 T = gv) (hmu : s = 4 → if h.1 = true then (gv = -1 ∨ ∃ y, y < h.2.2.2 ∧ gv = nI y) ∧ mu = gv + 1 else (∃ y, y < h.2.2.1 ∧ gv = nI y) ∧ mu = gv) : ∃ nd' cx' h' Ls' c' b' m', (∀ R, f_X1_begin_J110 n t c' b' nd' cx' = some R → ble R.2.2 b' → f_X1_begin n c b t = some R) ∧ f_X12_begin n m (nI T) (nI u) mu = f_X12_begin_J204 n m' (nI T) (nI u) (nI st) (cx' + 1) ∧ ble b' b ∧ Bd C c' b' ∧ cd_fr [3, 4, 5, 41] [2, 3, 4, 5] c c' ∧ md_fr [89, 101, 102, 103, 104, 130, 131, 132, 133, 134] m m' ∧ GLBT n mx d Z c' m' c1 m1 D h' Ls' K Km (st + 1) ∧ HVle h h' ∧ h'.2.1 = h.2.1 ∧ (h.1 = false → nd' = nI st ∧ st < h'.2.2.1) ∧ (cx' = -1 ∨ ∃ y, y < h'.2.2.2 ∧ cx' = nI y) := by
  obtain ⟨g1, ⟨g2, g3, g4⟩, ⟨g5, g6, g7, g8, g9, g10, g11⟩, ⟨g12, g13, g14⟩, ⟨g15, g16⟩, ⟨g17, g18, g19⟩, g20, g21, g22, g23⟩ := hg
  obtain ⟨-, -, -, u288, hu60⟩ := g1.un hu
  have h35 : mN m 35 = mN m1 35 := g1.2.2.2.1.mN (by decide)
  obtain ⟨m4, em4, k4⟩ := m_beg (n := n) (T := T) (u := u) (mu := mu) hme hme8 hT8 hu60 g6 g8 hst g10 g11 h111 hDT hs hs4 hb
  obtain ⟨c0, ec0⟩ : ∃ c0, c0 = cSI c 41 0 (nI (st + 1)) := ⟨_, rfl⟩
  rw [← ec0] at hnn hcc
  have fc0 : cd_fr [3, 4, 5, 41] [2, 3, 4, 5] c c0 := by rw [ec0]; exact cd_fr_SI (cd_fr_refl _ _ _) (by simp) (by decide) _ _
  have fm4 : md_fr [89, 101, 102, 103, 104, 130, 131, 132, 133, 134] m m4 := by
    rw [em4]
    exact md_fr_SA (md_fr_SA (md_fr_SA (md_fr_SI (md_fr_SI (md_fr_refl _ _) (by simp) _) (by simp) _) (by simp) _ _) (by simp) _ _) (by simp) _ _
  have hB0 : Bd C c0 b := by rw [ec0]; exact hB.SI (by decide) _ _
  have h41 : cI c0 41 0 = nI (st + 1) := by rw [ec0]; exact cI_SIe
  have h49 : cI c0 49 0 = cI c 49 0 := by rw [ec0]; exact cI_SIo (by decide)
  have h50' : cd_dp c0 50 0 = some T := by rw [ec0]; exact h50
  have h241 : cI c0 241 T = gv := by rw [ec0, cI_SIo (by decide)]; exact hgv
  have m89 : mI m4 89 = nI (st + 1) ∧ mI m4 101 = nI (st + 1) := by
    rw [em4]; exact ⟨by rw [mI_SA, mI_SA, mI_SA, mI_SIo (by decide), mI_SIe], by rw [mI_SA, mI_SA, mI_SA, mI_SIe]⟩
  have m102 : ∀ k, mA m4 102 k = if k = st then nI u else mA m 102 k := fun k => by rw [em4, mA_SAo (by decide), mA_SAo (by decide), mA_SA, if_pos rfl, mA_SI, mA_SI]
  have m103 : ∀ k, mA m4 103 k = if k = st then xb else mA m 103 k := fun k => by rw [em4, mA_SAo (by decide), mA_SA, if_pos rfl, mA_SAo (by decide), mA_SI, mA_SI]
  have m104 : ∀ k, mA m4 104 k = if k = st then (if s = 4 then mu else -1) else mA m 104 k := fun k => by rw [em4, mA_SA, if_pos rfl, mA_SAo (by decide), mA_SAo (by decide), mA_SI, mA_SI]
  -- what the class does first
  have cb : ∀ R, (if cI c0 49 0 = 0 then (Option.bind (f_X7_nodeNow n c0 t) fun p20 => Option.bind (f_X1_addNode n p20.2 b u (p20.1)) fun p21 => cd_ck (fun (q : (Int32 × cd_S × cd_B)) => q.2.2) (p21.2.2) <| f_X1_begin_J82 n t p21.2.1 (p21.2.2) u (p21.1)) else (f_X1_begin_J82 n t c0 b u ((-1)))) = some R → ble R.2.2 b → f_X1_begin n c b t = some R := fun R h1 h2 => by
    unfold f_X1_begin
    refine c_ck ?_ h2.1 h2.2
    rw [h50, bs_some, h238, bs_some, g5, g7, if_pos ((nI_ltI (by omega) (by omega)).mpr hst), bs_some, h232, if_pos (show nI DT < 60 from (nI_ltI (b := 60) (by omega) (by decide)).mpr hDT), nI_1, bs_some, ← ec0]
    exact h1
  -- what stays
  have glob : ∀ (c' : cd_S) (m' : md_S) (h' : HV) (Ls' : List (List Int32)), cd_fr [3, 4, 5] [2, 3, 4, 5] c0 c' → md_fr [130, 131, 132, 133, 134] m4 m' → CTX c' m' Ls' → h'.2.2.2 = Ls'.length → Ls'.length ≤ st + 1 → HVle h h' → h'.2.1 = h.2.1 → (h'.1 = false → NDS c' m' (st + 1) ∧ h'.2.2.1 = st + 1) → GLBT n mx d Z c' m' c1 m1 D h' Ls' K Km (st + 1) := fun c' m' h' Ls' fc fm hctx hl1 hl2 hle hth hnds => by
    have fc' : cd_fr [3, 4, 5, 41] [2, 3, 4, 5] c c' := cd_fr_tr fc0 fc (fun _ q => ⟨q, fun z => q (by simp at z ⊢; omega)⟩) (fun _ q => ⟨q, q⟩)
    have fm' : md_fr [89, 101, 102, 103, 104, 130, 131, 132, 133, 134] m m' := md_fr_tr fm4 fm (fun _ q => ⟨q, fun z => q (by simp at z ⊢; omega)⟩)
    have cI' : ∀ f, f ∉ [3, 4, 5, 41] → f ≠ 193 → cI c' f 0 = cI c f 0 := fun f a b => cd_frI fc' a b 0
    have mI' : ∀ f, f ∉ [89, 101, 102, 103, 104, 130, 131, 132, 133, 134] → mI m' f = mI m f := fun f a => md_frI fm' a
    refine ⟨g1.to (SK.fr fc' fm' (by decide) (by decide) (by decide)), ⟨g2, ?_, ?_⟩, ⟨?_, ?_, ?_, ?_, by omega, g10, ?_⟩, ⟨?_, ?_, g14.fr fc' fm' (by decide) (by decide) (by decide)⟩, ⟨?_, ?_⟩, ⟨hctx, hl1, hl2⟩, hnds, trivial, ?_, ?_⟩
    · rw [cI' 40 (by decide) (by decide)]; exact g3
    · rw [mI' 105 (by decide)]; exact g4
    · rw [cd_frI fc (by decide) (by decide)]; exact h41
    · rw [md_frI fm (by decide)]; exact m89.1
    · rw [cI' 42 (by decide) (by decide)]; exact g7
    · rw [mI' 90 (by decide)]; exact g8
    · rw [md_frI fm (by decide)]; exact m89.2
    · rw [cI' 45 (by decide) (by decide), mI' 93 (by decide)]; exact g12
    · rw [cI' 46 (by decide) (by decide), mI' 94 (by decide)]; exact g13
    · rw [cI' 49 (by decide) (by decide), hle.1]; exact g15
    · rw [mI' 87 (by decide), hle.1]; exact g16
    · rw [cI' 44 (by decide) (by decide)]; exact g22
    · rw [mI' 129 (by decide)]; exact g23
  by_cases q : h.1 = true
  · -- rewritten
    rw [if_pos q] at g15 g16
    rw [h49, g15, if_neg ne10] at cb
    have h87 : mI m4 87 = 1 := by rw [md_frI fm4 (by decide)]; exact g16
    have hL : Ls.length < 100000 := by omega
    have fl : ∀ {p : Prop}, h.1 = false → p := fun z => by rw [q] at z; exact absurd z (by decide)
    by_cases qn : cI c 301 u = 0
    · have q47 : mA m 47 u = 0 := Classical.byContradiction (fun z => (g1.need hu).mpr z qn)
      refine ⟨-1, -1, h, Ls, c0, b, m4, fun R h1 h2 => cb R ?_ h2, ?_, ble.refl b, hB0, fc0, fm4, ?_, HVle.refl h, rfl, fl, Or.inl rfl⟩
      · unfold f_X1_begin_J82 f_X1_begin_J109
        rw [h49, g15, if_neg ne10, show cI c0 301 u = 0 by rw [ec0, cI_SIo (by decide)]; exact qn, if_pos rfl]
        exact h1
      · rw [k4]
        unfold f_X12_begin_J175 f_X12_begin_J203
        rw [h87, if_neg ne10, m_ld47 hu60, bs_some, md_frA fm4 (by decide), q47, if_pos rfl]
        rfl
      · exact glob c0 m4 h Ls (cd_fr_refl _ _ _) (md_fr_refl _ _) (g17.fr (L := [41]) (R := []) (by rw [ec0]; exact cd_fr_SI (cd_fr_refl _ _ _) (by simp) (by decide) _ _) (md_fr_mono (L1 := [89, 101, 102, 103, 104]) (L3 := [89, 101, 102, 103, 104]) (by rw [em4]; exact md_fr_SA (md_fr_SA (md_fr_SA (md_fr_SI (md_fr_SI (md_fr_refl _ _) (by simp) _) (by simp) _) (by simp) _ _) (by simp) _ _) (by simp) _ _) (fun _ z => z)) (by decide) (by decide) (by decide)) g18 (by omega) (HVle.refl h) rfl fl
    · have q47 : mA m 47 u ≠ 0 := (g1.need hu).mp qn
      have hctx : CTX c0 m4 Ls := g17.fr (L := [41]) (R := []) (by rw [ec0]; exact cd_fr_SI (cd_fr_refl _ _ _) (by simp) (by decide) _ _) (md_fr_mono (L1 := [89, 101, 102, 103, 104]) (L3 := [89, 101, 102, 103, 104]) (by rw [em4]; exact md_fr_SA (md_fr_SA (md_fr_SA (md_fr_SI (md_fr_SI (md_fr_refl _ _) (by simp) _) (by simp) _) (by simp) _ _) (by simp) _ _) (by simp) _ _) (fun _ z => z)) (by decide) (by decide) (by decide)
      obtain ⟨tt, dd, ss, ww, v1, v2, v3, v4, v5, v6, v7, v8, v9, v10⟩ := g1.ufd.2 u (by omega)
      have hsss : ss = s := (nI_eq (by omega) (by omega)).mp (v7.symm.trans hs)
      obtain ⟨o, o1, o2, o3⟩ : ∃ o, o < ([0] :: Ls).length ∧ (s ≠ 4 → cx = cnI o) ∧ (if s = 4 then mu else cx + 1) = nI o ∧ (s = 4 → gv = cnI o) := by
        rw [g18] at hcx hmu
        by_cases z : s = 4
        · have hm := hmu z
          rw [if_pos q] at hm
          obtain ⟨o, a1, a2, a3⟩ := cn_of hm.1 hL
          exact ⟨o, by rw [List.length_cons]; exact a1, fun y => absurd z y, by rw [if_pos z, hm.2]; exact a3, fun _ => a2⟩
        · obtain ⟨o, a1, a2, a3⟩ := cn_of hcx hL
          exact ⟨o, by rw [List.length_cons]; exact a1, fun _ => a2, by rw [if_neg z]; exact a3, fun y => absurd y z⟩
      obtain ⟨x, c', b', m', Ls', r1, r2, r3, r4, r5, r6, r7, r8, r9⟩ := ctx_ok (n := n) (u := u) (o := o) (d := dd) (w := ww) (s := ss) (t := tt) (a2 := cx) (by omega) hC hctx o1 v3 v9 (by omega) hB0 hu60 (by rw [ec0, cI_SIo (by decide)]; exact v8) v6 (by rw [ec0, cI_SIo (by decide)]; exact v5) (by rw [ec0, cI_SIo (by decide), md_frA fm4 (by decide)]; exact v10) (by rw [md_frA fm4 (by decide)]; exact v2) v1 (by rw [md_frA fm4 (by decide)]; exact v4) (by rw [md_frA fm4 (by decide)]; exact v7) (fun _ z => o2 (by rw [← hsss]; exact z)) (fun z => ⟨T, h50', by rw [h241]; exact o3.2 (by rw [← hsss]; exact z)⟩)
      have hLs : Ls.length ≤ Ls'.length ∧ Ls'.length ≤ Ls.length + 1 := by
        rcases r9 with z | ⟨l, z⟩
        · rw [z]; omega
        · rw [z, List.length_append]; simp
      have hle : HVle h (h.1, h.2.1, h.2.2.1, Ls'.length) := ⟨rfl, ⟨[], by simp⟩, Nat.le_refl _, by rw [g18]; exact hLs.1⟩
      refine ⟨-1, nI x, (h.1, h.2.1, h.2.2.1, Ls'.length), Ls', c', b', m', fun R h1 h2 => cb R ?_ (ble.tr h2 r5), ?_, r5, r4, cd_fr_tr fc0 r6 (fun _ z => ⟨z, fun y => z (by simp at y ⊢; omega)⟩) (fun _ z => ⟨z, fun y => z (by simp at y ⊢; omega)⟩), md_fr_tr fm4 r7 (fun _ z => ⟨z, fun y => z (by simp at y ⊢; omega)⟩), ?_, hle, rfl, fl, Or.inr ⟨x, r3, rfl⟩⟩
      · unfold f_X1_begin_J82
        rw [h49, g15, if_neg ne10, show cI c0 301 u = cI c 301 u by rw [ec0, cI_SIo (by decide)], if_neg qn, hcc, bs_some]
        dsimp only
        rw [r1, bs_some]
        exact c_ck h1 h2.1 h2.2
      · rw [k4]
        unfold f_X12_begin_J175
        rw [h87, if_neg ne10, m_ld47 hu60, bs_some, md_frA fm4 (by decide), if_neg q47, o3.1, r2, bs_some, nI_1]
      · exact glob c' m' _ Ls' (cd_fr_mono r6 (by simp) (by simp)) r7 r8 rfl (by omega) hle rfl fl
  · have qf : h.1 = false := by cases hh : h.1 <;> simp_all
    rw [if_neg q] at g15 g16
    rw [h49, g15, if_pos rfl] at cb
    obtain ⟨⟨N1, N2, N3, N4⟩, N5⟩ := g20 qf
    obtain ⟨c', b', r1, r2, r3, r4, r5, r6, r7, r8, r9⟩ := c_node (n := n) (u := u) (N := st) (T := T) (nd := nd) (gv := gv) hC hB0 (by rw [ec0, rsz_e (cI_SIo (by decide))]; exact N2) (by omega) (by rw [ec0, cI_SIo (by decide)]; exact u288) h50' h241
    have hxb : xb = nd := by
      rcases hb with ⟨-, z2, -, z4⟩ | ⟨k, -, -, -, z, -⟩
      · rw [z2, z4]
      · exact z qf
    have hle : HVle h (h.1, h.2.1, st + 1, h.2.2.2) := ⟨rfl, ⟨[], by simp⟩, by rw [N5]; exact Nat.le_succ _, Nat.le_refl _⟩
    refine ⟨nI st, -1, (h.1, h.2.1, st + 1, h.2.2.2), Ls, c', b', m4, fun R h1 h2 => cb R ?_ (ble.tr h2 r3), ?_, r3, r2, cd_fr_tr fc0 r4 (fun _ z => ⟨z, by simp⟩) (fun _ z => ⟨z, fun y => z (by simp at y ⊢; omega)⟩), fm4, ?_, hle, rfl, fun _ => ⟨rfl, Nat.lt_succ_self st⟩, Or.inl rfl⟩
    · rw [hnn, bs_some]
      dsimp only
      rw [r1, bs_some]
      refine c_ck ?_ h2.1 h2.2
      unfold f_X1_begin_J82 f_X1_begin_J109
      rw [cd_frI r4 (by simp) (by decide), h49, g15, if_pos rfl]
      exact h1
    · rw [k4]
      unfold f_X12_begin_J175 f_X12_begin_J203
      rw [md_frI fm4 (by decide), g16, if_pos rfl]
      rfl
    · refine glob c' m4 _ Ls (cd_fr_mono r4 (by simp) (by simp)) (md_fr_refl _ _) ?_ g18 (by omega) hle rfl (fun _ => ⟨⟨(r2.1 5 (by omega)), r5, by omega, fun k hk => ?_⟩, rfl⟩)
      · exact g17.fr (L := [41]) (R := [5]) (cd_fr_tr (L1 := [41]) (R1 := []) (by rw [ec0]; exact cd_fr_SI (cd_fr_refl _ _ _) (by simp) (by decide) _ _) r4 (fun _ z => ⟨z, by simp⟩) (fun _ z => ⟨by simp, z⟩)) (md_fr_mono (L1 := [89, 101, 102, 103, 104]) (L3 := [89, 101, 102, 103, 104]) (by rw [em4]; exact md_fr_SA (md_fr_SA (md_fr_SA (md_fr_SI (md_fr_SI (md_fr_refl _ _) (by simp) _) (by simp) _) (by simp) _ _) (by simp) _ _) (by simp) _ _) (fun _ z => z)) (by decide) (by decide) (by decide)
      · have h35' : mN m4 35 = mN m 35 := by unfold mN; rw [md_frI fm4 (by decide)]
        by_cases qk : k = st
        · rw [qk]
          refine ⟨u, nd, gv, by omega, r6, r7, by rw [m102, if_pos rfl], by rw [m103, if_pos rfl, hxb], ?_, fun z => ?_⟩
          · rcases hnd qf with z | ⟨y, y1, y2⟩
            · exact Or.inl z
            · exact Or.inr ⟨y, by omega, y2⟩
          · rw [md_frA fm4 (by decide), hs] at z
            have z4 : s = 4 := (nI_eq (by omega) (by omega)).mp z
            have hm := hmu z4
            rw [if_neg q] at hm
            obtain ⟨⟨y, y1, y2⟩, hm2⟩ := hm
            exact ⟨r8, by rw [m104, if_pos rfl, if_pos z4, hm2], Or.inr ⟨y, by omega, y2⟩⟩
        · obtain ⟨u', x, z, e1, e2, e3, e4, e5, e6, e7⟩ := N4 k (by omega)
          have cc : ∀ j, j < 3 * st → cRF c' 5 j = cRF c 5 j := fun j hj => by rw [r9 j hj, ec0]; rfl
          refine ⟨u', x, z, by omega, by rw [cc _ (by omega)]; exact e2, by rw [cc _ (by omega)]; exact e3, by rw [m102, if_neg qk]; exact e4, by rw [m103, if_neg qk]; exact e5, e6, fun y => ?_⟩
          rw [md_frA fm4 (by decide)] at y
          obtain ⟨y1, y2, y3⟩ := e7 y
          exact ⟨by rw [cc _ (by omega)]; exact y1, by rw [m104, if_neg qk]; exact y2, y3⟩
