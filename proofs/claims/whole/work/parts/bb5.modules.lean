/-! all modules -/
theorem outlv_c {Q : md_S → Prop} {C : Nat × Nat} {c0 : cd_S} {b : cd_B} {fc1 : Option Th} {v : Int32} {c1 : cd_S} {fm : Option md_S} {Ok : cd_S → cd_B → md_S → Prop} {Pn : cd_S → cd_B → Prop} {RC : Int32 × cd_S × cd_B → Option Lp} (h : fc1 = some (Sum.inl (v, c1, b))) (hok : OUTLV Q C c0 b (RC (v, c1, b)) fm Ok Pn) : OUTLV Q C c0 b (Option.bind fc1 fun q => cd_ck lF (Sum.elim (fun (p : Int32 × cd_S × cd_B) => p.2.2) (fun (t : cd_S × cd_B) => t.2) q) <| Sum.elim RC (fun t => some (Sum.inl (Sum.inr t))) q) fm Ok Pn := by
  rw [h, bs_some]
  exact outlv_ck hok
theorem outlv_thr {Q : md_S → Prop} {C : Nat × Nat} {c0 c : cd_S} {b b1 b' : cd_B} {fc1 : Option Th} {c' : cd_S} {k pl : Nat} {fm : Option md_S} {m' : md_S} {Ok : cd_S → cd_B → md_S → Prop} {Pn : cd_S → cd_B → Prop} {RC : Int32 × cd_S × cd_B → Option Lp} (h : fc1 = some (Sum.inr (c', b'))) (ht : THR C c c' b1 b' k pl) (hc : CIv C c0 b c b1) (hb : ble b1 b) (hm : fm = some m') (hM : Q m') (hn : NF m' k pl) : OUTLV Q C c0 b (Option.bind fc1 fun q => cd_ck lF (Sum.elim (fun (p : Int32 × cd_S × cd_B) => p.2.2) (fun (t : cd_S × cd_B) => t.2) q) <| Sum.elim RC (fun t => some (Sum.inl (Sum.inr t))) q) fm Ok Pn := by
  refine ⟨m', hm, hM, Or.inr (Or.inr ⟨c', b', k, pl, ?_, (ht.txv hc).low hb, hn⟩)⟩
  rw [h, bs_some]
  exact ckl_inl rfl (ble.refl _)
theorem oplv_thr {C : Nat × Nat} {c0 c : cd_S} {b b1 b' : cd_B} {fc1 : Option Th} {c' : cd_S} {pl : Nat} {Pn : cd_S → cd_B → Prop} {RC : Int32 × cd_S × cd_B → Option Lp} (h : fc1 = some (Sum.inr (c', b'))) (ht : THR C c c' b1 b' 1 pl) (hc : CIv C c0 b c b1) (hb : ble b1 b) : OPLv C c0 b (Option.bind fc1 fun q => cd_ck lF (Sum.elim (fun (p : Int32 × cd_S × cd_B) => p.2.2) (fun (t : cd_S × cd_B) => t.2) q) <| Sum.elim RC (fun t => some (Sum.inl (Sum.inr t))) q) pl Pn := by
  refine Or.inr ⟨c', b', ?_, (ht.txv hc).low hb⟩
  rw [h, bs_some]
  exact ckl_inl rfl (ble.refl _)
/-- hasModule where a module begins -/
theorem c_hasM1 {n : Nat} {c : cd_S} {b : cd_B} (hk : cI c 328 0 = 211) : f_X4_hasModule n c b = some (Sum.inl (1, c, b)) := by
  unfold f_X4_hasModule f_X4_hasModule_J18 f_X4_hasModule_J44 f_X4_hasModule_J49
  refine ck_inl ?_ (ble.refl _)
  rw [if_pos hk, if_neg ne10, c_need1, bs_some]
  exact ck_inl rfl (ble.refl _)
/-- where the text ends behind a module -/
theorem c_hasM0 {n : Nat} {c : cd_S} {b : cd_B} {d : Nat} (hk : cI c 328 0 = 0) (h74 : cI c 74 0 = nI d) (hd : 0 < d) (hd8 : d ≤ 8) : f_X4_hasModule n c b = some (Sum.inl (0, c, b)) := by
  unfold f_X4_hasModule f_X4_hasModule_J18 f_X4_hasModule_J44 f_X4_hasModule_J49
  refine ck_inl ?_ (ble.refl _)
  rw [if_neg (show ¬ cI c 328 0 = 211 by rw [hk]; decide), if_pos rfl, if_pos hk, h74, if_neg (show ¬ nI d ≤ (0 : Int32) from fun y => absurd ((nI_leI (b := 0) (by omega) (by decide)).mp y) (by omega)), c_need1, bs_some]
  exact ck_inl rfl (ble.refl _)
/-- elsewhere -/
theorem c_hasMx {n : Nat} {C : Nat × Nat} {c : cd_S} {b : cd_B} {pl : Nat} (hC : BC C) (hB : Bd C c b) (hp : cI c 329 0 = nI pl) (hk : cI c 328 0 ≠ 211) (h0 : cI c 328 0 = 0 → cI c 74 0 = 0) : ∃ c' b', f_X4_hasModule n c b = some (Sum.inr (c', b')) ∧ THR C c c' b b' 1 pl := by
  obtain ⟨c', b', e1, e2⟩ := c_need0 (n := n) hC hB hp
  refine ⟨c', b', ?_, e2⟩
  have hJ : f_X4_hasModule_J48 n c b 0 = some (Sum.inr (c', b')) := by
    unfold f_X4_hasModule_J48 f_X4_hasModule_J49
    rw [e1, bs_some]
    exact ck_inr rfl (ble.refl _)
  unfold f_X4_hasModule f_X4_hasModule_J18
  refine ck_inr ?_ ⟨e2.2.2.2.1, e2.2.2.2.2.1⟩
  rw [if_neg hk, if_pos rfl]
  by_cases hz : cI c 328 0 = 0
  · rw [if_pos hz, h0 hz, if_pos (show (0 : Int32) ≤ 0 by decide), hJ]
  · rw [if_neg hz, hJ]
theorem mWd0 : ∀ k, k ∈ vks → (mWd k = 0 ↔ k = 0) := by decide
theorem modsL {n : Nat} {C : Nat × Nat} {B : Nat → Int32} {N : Nat} {c0 : cd_S} {m0 : md_S} (hC : BC C) (hn : 5000 ≤ n) : ∀ (e j j2 d : Nat) (c : cd_S) (b : cd_B) (m : md_S) (w : WD) (L : List WD), d + e = 9 → e < j → e < j2 → CIv C c0 b c b → Qv m0 m → LX B N c m w L → MST c m d → (wK w = 0 → d = 0) →
    OUTLV (Qv m0) C c0 b (f_X11_program_L51 n j c b (nI d)) (f_X12_readAll_L15 n j2 m) (fun c' _ m' => ∃ d', MST c' m' d' ∧ 0 < d' ∧ mI m' 6 = 0 ∧ mI m' 7 = -1 ∧ P7 (1280 + N / 2048) m' 0) (fun _ _ => False) := by
  intro e
  induction e with
  | zero =>
    intro j j2 d c b m w L h1 _ _ _ _ _ h2
    have := h2.1.2.2.2.2.2.2.2.2.2.1.1
    omega
  | succ e ih =>
  intro j j2 d c b m w L hde hj hj2 hc hm h hs hz
  obtain ⟨j, rfl⟩ : ∃ i, j = i + 1 := ⟨j - 1, by omega⟩
  obtain ⟨j2, rfl⟩ : ∃ i, j2 = i + 1 := ⟨j2 - 1, by omega⟩
  have hMD := hs.1.2.2.2.2.2.2.2.2.2.1
  have hd8 : d ≤ 8 := hMD.1
  rw [u_X11_program_L51, if_neg (show ¬ (8 : Int32) < nI d from fun y => absurd ((nI_ltI (a := 8) (by decide) (by omega)).mp y) (by omega)), u_X12_readAll_L15]
  by_cases hk : wK w = 211
  · refine outlv_c (c_hasM1 (h.k.1.trans hk)) ?_
    dsimp only
    rw [if_neg ne10]
    refine outlv_seq (module_ok hC hn hc hm h hk hs) ?_ ?_ ?_
    · rintro v c1 b1 x m1 hc1 hm1 ⟨hs1, w1, L1, hX1, hl1⟩
      dsimp only
      have hMD1 := hs1.1.2.2.2.2.2.2.2.2.2.1
      rw [m_fine, bs_some, if_pos hX1.fine]
      dsimp only
      rw [if_neg ne10, nI_1, hX1.mw.2.1]
      by_cases hk0 : wK w1 = 0
      · rw [if_pos ((mWd0 _ hX1.v).mpr hk0)]
        obtain ⟨j, rfl⟩ : ∃ i, j = i + 1 := ⟨j - 1, by omega⟩
        have hd18 : d + 1 ≤ 8 := hMD1.1
        refine ⟨m1, rfl, hm1, Or.inl ⟨c1, b1, nI (d + 1), ?_, hc1.here, d + 1, hs1, by omega, hX1.fine, ?_⟩⟩
        · rw [u_X11_program_L51, if_neg (show ¬ (8 : Int32) < nI (d + 1) from fun y => absurd ((nI_ltI (a := 8) (by decide) (by omega)).mp y) (by omega)), c_hasM0 (hX1.k.1.trans hk0) hMD1.2.1 (by omega) hMD1.1, bs_some]
          exact ckl_inr rfl (ble.refl _)
        · exact ⟨hX1.plc, hX1.p7.le (by have := hX1.wf; omega)⟩
      · rw [if_neg (fun y => hk0 ((mWd0 _ hX1.v).mp y))]
        exact ih j j2 (d + 1) c1 b1 m1 w1 L1 (by omega) (by omega) (by omega) hc1.here hm1 hX1 hs1 (fun y => absurd y hk0)
    · rintro v c1 b1 pl hc1 hbw hd
      dsimp only
      obtain ⟨j, rfl⟩ : ∃ i, j = i + 1 := ⟨j - 1, by omega⟩
      rw [nI_1, u_X11_program_L51, if_neg (show ¬ (8 : Int32) < nI (d + 1) from fun y => absurd ((nI_ltI (a := 8) (by decide) (by omega)).mp y) (by omega))]
      obtain ⟨c', b', t1, t2⟩ := c_hasMx (n := n) hC hc1.1 hbw.2 (by rw [hbw.1]; decide) (by rw [hbw.1]; intro y; exact absurd y (by decide))
      exact oplv_thr t1 t2 hc1.here (ble.refl _)
    · intro x m1 k pl h1 h2
      dsimp only
      rw [nf_isFine h2, bs_some]
      exact ⟨m1, rfl, h1, h2⟩
  · obtain ⟨c', b', t1, t2⟩ := c_hasMx (n := n) hC hc.1 h.k.2.1 (by rw [h.k.1]; exact hk) (by
      rw [h.k.1]; intro y
      rw [hMD.2.1, hz y]; rfl)
    obtain ⟨m', f1, f2, f3⟩ := m_misfit (n := n) h
    refine outlv_thr t1 t2 hc (ble.refl _) (m' := m') ?_ (fMv hm f2 (by decide)) f3
    have e1 : f_X12_readModule n m = some (0, m') := by
      unfold f_X12_readModule f_X12_key
      rw [m_isKey h.fine h.mw key_module, bs_some, if_neg hk]
      dsimp only
      rw [if_pos rfl, m_fine, bs_some, if_pos h.fine]
      dsimp only
      rw [if_neg (by decide), f1, bs_some, bs_some]
      dsimp only
      rw [nf_isName f3, bs_some]
      rfl
    rw [e1, bs_some]
    dsimp only
    rw [nf_isFine f3, bs_some]
    rfl
