/-! all of reading -/
noncomputable def PRest (n : Nat) (c1 : cd_S) (b1 : cd_B) : Option Th := Option.bind (f_X2_settleGroups n c1) fun p15 => Option.bind (f_X8_findNeeds n p15.2) fun p16 => Option.bind (f_X2_writeCode n p16.2 b1) fun p17 => cd_ck sF (p17.2.2) <| Option.bind (some (cSI p17.2.1 362 0 1)) fun σ19 => some (Sum.inl ((cI σ19 66 0), σ19, p17.2.2))
theorem prog_eq {n : Nat} {c : cd_S} {b : cd_B} : f_X11_program n c b = cd_ck sF b (Option.bind (f_X10_begin n (cpr c) b (cI c 353 0) 4) fun p5 => cd_ck sF (p5.2.2) <| Option.bind (f_X4_readGrants n p5.2.1 (p5.2.2)) fun q7 => cd_ck sF (Sum.elim (fun (p : Int32 × cd_S × cd_B) => p.2.2) (fun (t : cd_S × cd_B) => t.2) q7) <| Sum.elim (fun p7 => Option.bind (f_X11_program_L51 n n p7.2.1 (p7.2.2) 0) fun q13 => cd_ck sF (Sum.elim (fun (q : ((Int32 × cd_S × cd_B) ⊕ (cd_S × cd_B))) => Sum.elim (fun (p : (Int32 × cd_S × cd_B)) => p.2.2) (fun (t : cd_S × cd_B) => t.2) q) (fun (q : cd_S × cd_B × Int32) => q.2.1) q13) <| Sum.elim some (fun t13 => PRest n t13.1 (t13.2.1)) q13) (fun t => some (Sum.inr t)) q7) := by
  unfold f_X11_program f_X1_forget f_X8_forget PRest
  simp only [bs_some]
  rfl
theorem nf_L15 {n : Nat} {m : md_S} {k pl j : Nat} (h : NF m k pl) : f_X12_readAll_L15 n (j + 1) m = some m := by
  rw [u_X12_readAll_L15]
  unfold f_X12_readModule
  rw [nf_key h, bs_some]
  dsimp only
  rw [nf_isName h, bs_some]
  dsimp only
  rw [if_pos rfl, bs_some]
  dsimp only
  rw [nf_isFine h, bs_some]
  rfl
def pgL : List Nat := [51, 260, 323, 324, 325, 326, 353, 362] ++ PLtv
def pgR : List Nat := [0, 1] ++ PRc
def pgM : List Nat := [2, 3, 4, 5, 16, 86] ++ PMv
/-- what program keeps, up to the end of reading -/
def PGf (c c' : cd_S) (m m' : md_S) : Prop := cd_fr pgL pgR c c' ∧ KR c c' ∧ md_fr pgM m m' ∧ KM m m' ∧ (cI c' 51 0 = 0 ∧ cI c' 260 0 = 0 ∧ cI c' 353 0 = 0 ∧ cI c' 362 0 = 0) ∧ mI m' 2 = 0 ∧ mI m' 86 = 0
theorem OST.zero {c : cd_S} {m : md_S} {g l : Nat} (hc : ∀ f, f ∈ [66, 74, 76, 78, 109, 134, 138] → cI c f 0 = 0) (hm : ∀ f, f ∈ [25, 35, 48, 50, 56, 58, 60, 62, 63, 65] → mI m f = 0) (hP : PolQ c m g g l) : OST c m 0 := by
  have N : ∀ f, f ∈ [25, 35, 48, 50, 56, 58, 60, 62, 63, 65] → mN m f = 0 := fun f hf => mN_of (a := 0) ((hm f hf).trans rfl) (by decide)
  have I : ∀ f, f ∈ [25, 35, 48, 50, 56, 58, 60, 62, 63, 65] → mI m f = nI (mN m f) := fun f hf => by rw [N f hf, hm f hf]; rfl
  have n35 := N 35 (by decide)
  have n50 := N 50 (by decide)
  have n58 := N 58 (by decide)
  have n60 := N 60 (by decide)
  have n62 := N 62 (by decide)
  have n65 := N 65 (by decide)
  have n48 := N 48 (by decide)
  refine ⟨⟨by rw [hc 138 (by decide), hm 62 (by decide)], by rw [hc 66 (by decide), hm 35 (by decide)], hc 134 (by decide), hm 56 (by decide), I 62 (by decide), by omega, I 35 (by decide), by omega, hm 63 (by decide)⟩, fun i hi => by omega, ⟨I 65 (by decide), by omega, I 50 (by decide), by omega, fun i hi => by omega⟩, fun i hi => by omega, fun i hi => by omega, ⟨by rw [n58, hc 76 (by decide)]; rfl, I 58 (by decide), by omega, fun i hi => by omega, fun j hj => by omega, fun q hq => by omega⟩, ⟨by rw [n60, hc 78 (by decide)]; rfl, I 60 (by decide), by omega, fun i hi => by omega⟩, ⟨by rw [n48, hc 109 (by decide)]; rfl, I 48 (by decide), by omega, fun i hi => by omega⟩, ⟨g, l, hP⟩, ⟨by omega, hc 74 (by decide), hm 25 (by decide), fun i hi => by omega⟩, fun i hi => by omega, fun i hi => by omega, fun i hi => by omega, fun i hi => by omega, by rw [n35]; exact Nat.zero_le _⟩
theorem read_ok {n : Nat} {C : Nat × Nat} {c : cd_S} {m : md_S} {b : cd_B} {t : Nat} (hC : BC C) (hn : 5000 ≤ n) (hTR : TR c m t) (ht : t ≤ 1280) (hK : KWs c) (hB : Bd C c b) :
    (∃ c' b' m' k pl, f_X11_program n c b = some (Sum.inr (c', b')) ∧ f_X12_program n m = some (0, mSI (mSI m' 5 0) 0 1) ∧ NF m' k pl ∧ cI c' 139 0 = nI k ∧ cI c' 140 0 = nI pl ∧ Bd (C.1 - 1, C.2 - 6) c' b' ∧ ble b' b ∧ PGf c c' m m') ∨
    (∃ c' b' m' d, MST c' m' d ∧ 0 < d ∧ mI m' 6 = 0 ∧ (mI m' 7 = -1 ∧ P7 1280 m' 0) ∧ cI c' 139 0 = 0 ∧ cI c' 140 0 = -1 ∧ Bd C c' b' ∧ ble b' b ∧ PGf c c' m m' ∧ (∀ v c2 b2, PRest n c' b' = some (Sum.inl (v, c2, b2)) → ble b2 b' → f_X11_program n c b = some (Sum.inl (v, c2, b2))) ∧ f_X12_program n m = f_X12_program_J165 n (mSI m' 5 1) 0) := by
  obtain ⟨n', hn'⟩ : ∃ q, n = q + 1 := ⟨n - 1, by omega⟩
  have h353 := hTR.2.1
  obtain ⟨w, L, c1, b1, m1, s1, s2, s3, s4, ⟨x51, x260, x353, x362⟩, s6, s7, s8, s9⟩ := start_ok (n := n) hC hn hTR ht hK hB
  obtain ⟨c2, hc2⟩ : ∃ z, z = clr c1 := ⟨_, rfl⟩
  have f12 : cd_fr clL [] c1 c2 := by rw [hc2]; exact clr_fr _
  have z2 : ∀ f, f ∈ [66, 74, 76, 78, 106, 107, 108, 109, 134, 138, 139] → cI c2 f 0 = 0 := by rw [hc2]; exact clr_0 _
  have z140 : cI c2 140 0 = -1 := by rw [hc2]; exact clr_140 _
  have hB2 : Bd C c2 b1 := s3.fr f12
  have hC2 : CI C c2 b1 c2 b1 := ⟨hB2, ble.refl _, CF.refl _ _⟩
  have hC2v : CIv C c2 b1 c2 b1 := ⟨hB2, ble.refl _, CF.refl _ _⟩
  -- how the class's program goes on
  have prog1 : ∀ R : Th, ble (sF R) b1 → (Option.bind (f_X4_readGrants n c1 b1) fun q7 => cd_ck sF (Sum.elim (fun (p : Int32 × cd_S × cd_B) => p.2.2) (fun (t : cd_S × cd_B) => t.2) q7) <| Sum.elim (fun p7 => Option.bind (f_X11_program_L51 n n p7.2.1 (p7.2.2) 0) fun q13 => cd_ck sF (Sum.elim (fun (q : ((Int32 × cd_S × cd_B) ⊕ (cd_S × cd_B))) => Sum.elim (fun (p : (Int32 × cd_S × cd_B)) => p.2.2) (fun (t : cd_S × cd_B) => t.2) q) (fun (q : cd_S × cd_B × Int32) => q.2.1) q13) <| Sum.elim some (fun t13 => PRest n t13.1 (t13.2.1)) q13) (fun t => some (Sum.inr t)) q7) = some R → f_X11_program n c b = some R := by
    intro R hR h
    rw [prog_eq, h353, s1, bs_some]
    have hRb := hR.tr s2
    refine c_ck ?_ hRb.1 hRb.2
    dsimp only
    exact c_ck h hR.1 hR.2
  have thrG : ∀ c' b', f_X4_readGrants n c1 b1 = some (Sum.inr (c', b')) → ble b' b1 → f_X11_program n c b = some (Sum.inr (c', b')) := fun c' b' h hb => prog1 _ hb (by
    rw [h, bs_some]
    exact ck_inr rfl (ble.refl _))
  have thrM : ∀ v c3 b3 c' b', f_X4_readGrants n c1 b1 = some (Sum.inl (v, c3, b3)) → ble b3 b1 → f_X11_program_L51 n n c3 b3 0 = some (Sum.inl (Sum.inr (c', b'))) → ble b' b3 → f_X11_program n c b = some (Sum.inr (c', b')) := fun v c3 b3 c' b' h hb h2 hb2 => prog1 _ (hb2.tr hb) (by
    rw [h, bs_some]
    refine ck_inr ?_ hb2
    dsimp only [Sum.elim]
    rw [h2, bs_some]
    exact ck_inr rfl (ble.refl _))
  have okM : ∀ v c3 b3 c4 b4 i, f_X4_readGrants n c1 b1 = some (Sum.inl (v, c3, b3)) → ble b3 b1 → f_X11_program_L51 n n c3 b3 0 = some (Sum.inr (c4, b4, i)) → ble b4 b3 → ∀ v5 c5 b5, PRest n c4 b4 = some (Sum.inl (v5, c5, b5)) → ble b5 b4 → f_X11_program n c b = some (Sum.inl (v5, c5, b5)) := fun v c3 b3 c4 b4 i h hb h2 hb2 v5 c5 b5 h3 hb3 => prog1 _ ((hb3.tr hb2).tr hb) (by
    rw [h, bs_some]
    refine ck_inl ?_ (hb3.tr hb2)
    dsimp only [Sum.elim]
    rw [h2, bs_some]
    exact ck_inl h3 hb3)
  have grI : ∀ c3 b3 i, f_X4_readGrants_L29 n n c2 b1 0 = some (Sum.inr (c3, b3, i)) → ble b3 b1 → f_X4_readGrants n c1 b1 = some (Sum.inl (0, c3, b3)) := fun c3 b3 i h hb => by
    rw [grants_eq, ← hc2, h, bs_some]
    refine ck_inl ?_ hb
    exact ck_inl rfl (ble.refl _)
  have grT : ∀ c3 b3, f_X4_readGrants_L29 n n c2 b1 0 = some (Sum.inl (Sum.inr (c3, b3))) → ble b3 b1 → f_X4_readGrants n c1 b1 = some (Sum.inr (c3, b3)) := fun c3 b3 h hb => by
    rw [grants_eq, ← hc2, h, bs_some]
    refine ck_inr ?_ hb
    exact ck_inr rfl (ble.refl _)
  -- the model's
  have mThr : ∀ m' k pl, f_X12_readAll n m1 = some (0, m') → NF m' k pl → f_X12_program n m = some (0, mSI (mSI m' 5 0) 0 1) := fun m' k pl h hN => by
    rw [s6, h, bs_some]
    dsimp only
    rw [nf_isFine hN, bs_some]
    dsimp only
    rw [show md_zb 0 = some 0 from rfl, bs_some, bs_some, mI_SIe, if_pos rfl]
    unfold f_X12_program_J165
    rw [bs_some, mI_SIo (by decide), mI_SIe, if_pos rfl]
  have mOk : ∀ m', f_X12_readAll n m1 = some (0, m') → mI m' 6 = 0 → f_X12_program n m = f_X12_program_J165 n (mSI m' 5 1) 0 := fun m' h hN => by
    rw [s6, h, bs_some]
    dsimp only
    rw [m_fine, bs_some, if_pos hN]
    dsimp only
    rw [show md_zb 1 = some 1 from rfl, bs_some, bs_some, mI_SIe, if_neg ne10]
  have ra : ∀ q3 q6, f_X12_readAll_L0 n n m1 = some q3 → f_X12_readAll_L15 n n q3 = some q6 → f_X12_readAll n m1 = some (0, q6) := fun q3 q6 h1 h2 => by
    unfold f_X12_readAll
    rw [h1, bs_some, h2, bs_some]
  have nfL15 : ∀ (q : md_S) (k pl : Nat), NF q k pl → f_X12_readAll_L15 n n q = some q := fun q k pl h => by
    have := nf_L15 (n := n) (j := n') h
    rw [← hn'] at this
    exact this
  -- frames
  have fin : ∀ (c' : cd_S) (m' : md_S), CF PLtv c2 c' → Qv m1 m' → PGf c c' m m' := by
    intro c' m' h1 h2
    have g1 : cd_fr ([51, 260, 323, 324, 325, 326, 353, 362] ++ PLtv) ([0, 1] ++ PRc) c c2 := cd_fr_tr s4 f12 (fun k hk => ⟨nin (by decide) hk, nin (by decide) hk⟩) (fun k hk => ⟨nin (fun _ y => List.mem_append_left _ y) hk, by simp⟩)
    refine ⟨cd_fr_tr g1 h1.1 (fun k hk => ⟨hk, fun y => hk (List.mem_append_right _ y)⟩) (fun k hk => ⟨hk, fun y => hk (List.mem_append_right _ y)⟩), ((KR.of s4 (by decide) (by decide) (by decide) (by decide)).tr (KR.of f12 (by decide) (by decide) (by decide) (by decide))).tr h1.2, md_fr_tr s7 h2.1 (fun k hk => ⟨nin (by decide) hk, fun y => hk (List.mem_append_right _ y)⟩), (KM.of s7 (by decide) (by decide) (by decide)).tr h2.2, ⟨?_, ?_, ?_, ?_⟩, ?_, ?_⟩
    · rw [cd_frI h1.1 (by decide) (by decide), cd_frI f12 (by decide) (by decide)]; exact x51
    · rw [cd_frI h1.1 (by decide) (by decide), cd_frI f12 (by decide) (by decide)]; exact x260
    · rw [cd_frI h1.1 (by decide) (by decide), cd_frI f12 (by decide) (by decide)]; exact x353
    · rw [cd_frI h1.1 (by decide) (by decide), cd_frI f12 (by decide) (by decide)]; exact x362
    · rw [md_frI h2.1 (by decide)]; exact s8 2 (by decide)
    · rw [md_frI h2.1 (by decide)]; exact s8 86 (by decide)
  have Qr : Qv m1 m1 := ⟨md_fr_refl _ _, KM.refl _⟩
  -- no word where the modules should begin
  have bwR : ∀ (v : Int32) (c3 : cd_S) (b3 : cd_B) (q : md_S) (pl : Nat), f_X4_readGrants n c1 b1 = some (Sum.inl (v, c3, b3)) → CIv C c2 b1 c3 b3 → BW c3 pl → f_X12_readAll_L0 n n m1 = some q → NF q 1 pl → Qv m1 q → ∃ c' b' m' k pl, f_X11_program n c b = some (Sum.inr (c', b')) ∧ f_X12_program n m = some (0, mSI (mSI m' 5 0) 0 1) ∧ NF m' k pl ∧ cI c' 139 0 = nI k ∧ cI c' 140 0 = nI pl ∧ Bd (C.1 - 1, C.2 - 6) c' b' ∧ ble b' b ∧ PGf c c' m m' := by
    intro v c3 b3 q pl h1 h2 h3 h4 h5 h6
    obtain ⟨c', b', t1, t2⟩ := c_hasMx (n := n) hC h2.1 h3.2 (by rw [h3.1]; decide) (by rw [h3.1]; intro y; exact absurd y (by decide))
    have hL : f_X11_program_L51 n n c3 b3 0 = some (Sum.inl (Sum.inr (c', b'))) := by
      have : f_X11_program_L51 n (n' + 1) c3 b3 0 = some (Sum.inl (Sum.inr (c', b'))) := by
        rw [u_X11_program_L51, if_neg (by decide), t1, bs_some]
        exact ckl_inl rfl (ble.refl _)
      rw [← hn'] at this
      exact this
    have tx := t2.txv h2.here
    exact ⟨c', b', q, 1, pl, thrM _ _ _ _ _ h1 h2.2.1 hL tx.2.2.2.1, mThr q 1 pl (ra _ _ h4 (nfL15 q 1 pl h5)) h5, h5, tx.1, tx.2.1, tx.2.2.1, (tx.2.2.2.1.tr h2.2.1).tr s2, fin _ _ tx.2.2.2.2 h6⟩
  rcases s9 with hX0 | ⟨hbw, hnf⟩
  · have hX : LX (tB c t) t c2 m1 w L := hX0.fr f12 (md_fr_refl _ []) (by decide) (by decide) (by decide)
    have hK8 : kB (mSI m1 1000 0) = 8 := by unfold kB; rw [mI_SIe]; decide
    have f0 : md_fr [1000] m1 (mSI m1 1000 0) := md_fr_SI (md_fr_refl _ _) (by decide) _
    have f0' : md_fr [1000] (mSI m1 1000 0) m1 := fun k hk => ⟨(f0 k hk).1.symm, (f0 k hk).2.1.symm, (f0 k hk).2.2.1.symm, (f0 k hk).2.2.2.symm⟩
    have hMI : MI (mSI m1 1000 0) m1 := ⟨md_fr_mono f0' (by decide), ⟨fun _ _ => ⟨rfl, rfl, fun _ _ => rfl⟩, fun y => absurd y (by rw [hK8]; decide), fun _ _ => ⟨rfl, rfl, fun _ _ => rfl⟩⟩⟩
    have hQ : ∀ q, MI (mSI m1 1000 0) q → Qv m1 q := fun q h => ⟨md_fr_tr f0 h.1 (fun k hk => ⟨nin (by decide) hk, fun y => hk (by
      rcases List.mem_append.mp y with z | z
      · exact List.mem_append_left _ z
      · exact List.mem_append_right _ (List.mem_append_right _ z))⟩), fun x hx => h.2.2.2 x hx⟩
    have hP0 : PolQ c2 m1 0 0 0 := ⟨by omega, by omega, by omega, z2 106 (by decide), s8 20 (by decide), z2 107 (by decide), s8 22 (by decide), fun i hi => by omega, fun i hi => by omega⟩
    obtain ⟨q3, e1, e2, e3 | ⟨pl, e3, e4⟩ | ⟨c', b', k, pl, e3, e4, e5⟩⟩ := grsL (n := n) (l := 0) hC hn hK8 9 n n 0 c2 b1 m1 w L rfl (by omega) (by omega) (by omega) hC2 hMI hX hP0
    · obtain ⟨c3, b3, i, g1, g2, rfl, ⟨w', L', g3, g4, g9⟩, ⟨g, g5⟩, g6, g7, g8⟩ := e3
      have hG := grI _ _ _ g1 g2.2.1
      have hM3 : MST c3 q3 0 := by
        refine ⟨OST.zero (g := g) (l := 0) (fun f hf => ?_) (fun f hf => ?_) g5, ⟨g, 0, g5, ?_, fun t ht => absurd ht (by simp [dtab]), fun i hi => absurd hi (by omega)⟩, fun i hi => absurd hi (by omega)⟩
        · have q1 : ∀ f, f ∈ [66, 74, 76, 78, 109, 134, 138] → f ∉ gGc ∧ f ≠ 193 ∧ f ∈ [66, 74, 76, 78, 106, 107, 108, 109, 134, 138, 139] := by decide
          rw [cd_frI g6 (q1 f hf).1 (q1 f hf).2.1]; exact z2 f (q1 f hf).2.2
        · have q1 : ∀ f, f ∈ [25, 35, 48, 50, 56, 58, 60, 62, 63, 65] → f ∉ gGm ∧ f ∈ [2, 5, 20, 22, 25, 35, 48, 50, 56, 58, 60, 62, 63, 65, 86] := by decide
          rw [md_frI g7 (q1 f hf).1]; exact s8 f (q1 f hf).2
        · rw [cd_frI g6 (by decide) (by decide)]; exact z2 108 (by decide)
      have hc3 : CIv C c2 b3 c3 b3 := g2.here.v (CF.refl _ _)
      obtain ⟨q6, u1, u2, u3 | ⟨pl, u3, u4⟩ | ⟨c', b', k, pl, u3, u4, u5⟩⟩ := modsL (n := n) hC hn 9 n n 0 c3 b3 q3 w' L' rfl (by omega) (by omega) hc3 (hQ _ e2) g3 hM3 (fun _ => rfl)
      · obtain ⟨c4, b4, i4, v1, v2, d', v3, v4, v5, v6⟩ := u3
        right
        refine ⟨c4, b4, q6, d', v3, v4, v5, ⟨v6.1, v6.2.le (by omega)⟩, ?_, ?_, v2.1, (v2.2.1.tr g2.2.1).tr s2, fin _ _ ⟨cd_fr_mono v2.2.2.1 (fun _ y => List.mem_append_right _ y) (fun _ y => y), v2.2.2.2⟩ u2, okM _ _ _ _ _ _ hG g2.2.1 v1 v2.2.1, mOk _ (ra _ _ e1 u1) v5⟩
        · rw [cd_frI v2.2.2.1 (by decide) (by decide)]; exact z2 139 (by decide)
        · rw [cd_frI v2.2.2.1 (by decide) (by decide)]; exact z140
      · rcases u3 with ⟨_, _, _, _, _, _, y⟩ | ⟨c', b', u3, u5⟩
        · exact y.elim
        · exact Or.inl ⟨c', b', q6, 1, pl, thrM _ _ _ _ _ hG g2.2.1 u3 u5.2.2.2.1, mThr _ _ _ (ra _ _ e1 u1) u4, u4, u5.1, u5.2.1, u5.2.2.1, (u5.2.2.2.1.tr g2.2.1).tr s2, fin _ _ u5.2.2.2.2 u2⟩
      · exact Or.inl ⟨c', b', q6, k, pl, thrM _ _ _ _ _ hG g2.2.1 u3 u4.2.2.2.1, mThr _ _ _ (ra _ _ e1 u1) u5, u5, u4.1, u4.2.1, u4.2.2.1, (u4.2.2.2.1.tr g2.2.1).tr s2, fin _ _ u4.2.2.2.2 u2⟩
    · rcases e3 with ⟨c3, b3, i, g1, g2, g3, g4⟩ | ⟨c', b', g1, g2⟩
      · exact Or.inl (bwR 0 c3 b3 q3 pl (grI _ _ _ g1 g2.2.1) (g2.v (CF.refl _ _)) g3 e1 e4 (hQ _ e2))
      · have tx := g2.v (CF.refl PLv c2)
        exact Or.inl ⟨c', b', q3, 1, pl, thrG _ _ (grT _ _ g1 tx.2.2.2.1) tx.2.2.2.1, mThr _ _ _ (ra _ _ e1 (nfL15 q3 1 pl e4)) e4, e4, tx.1, tx.2.1, tx.2.2.1, tx.2.2.2.1.tr s2, fin _ _ tx.2.2.2.2 (hQ _ e2)⟩
    · have tx := e4.v (CF.refl PLv c2)
      exact Or.inl ⟨c', b', q3, k, pl, thrG _ _ (grT _ _ e3 tx.2.2.2.1) tx.2.2.2.1, mThr _ _ _ (ra _ _ e1 (nfL15 q3 k pl e5)) e5, e5, tx.1, tx.2.1, tx.2.2.1, tx.2.2.2.1.tr s2, fin _ _ tx.2.2.2.2 (hQ _ e2)⟩
  · have hbw2 : BW c2 (wF w) := bw_fr hbw f12 (by decide) (by decide)
    have hL29 : f_X4_readGrants_L29 n n c2 b1 0 = some (Sum.inr (c2, b1, 0)) := by
      have : f_X4_readGrants_L29 n (n' + 1) c2 b1 0 = some (Sum.inr (c2, b1, 0)) := by
        rw [u_X4_readGrants_L29, if_neg (by decide), hbw2.1, if_neg (by decide)]
      rw [← hn'] at this
      exact this
    have hL0 : f_X12_readAll_L0 n n m1 = some m1 := by
      have := nf_raL (n := n) (j := n') hnf
      rw [← hn'] at this
      exact this
    exact Or.inl (bwR 0 c2 b1 m1 (wF w) (grI _ _ _ hL29 (ble.refl _)) hC2v hbw2 hL0 hnf Qr)
