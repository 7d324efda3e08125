/-! the run's loop -/
/-- a run has come to its end -/
def ENDS (n mx d : Nat) (C : Nat × Nat) (c : cd_S) (b : cd_B) (m : md_S) (c1 : cd_S) (m1 : md_S) (D : PD) : Prop := CUTS n d C c b m c1 m1 D ∨ ∃ Z h Ls K st Fs, RSTS n mx d Z C c b m c1 m1 D h Ls K st Fs ∧ nab m K = 0 ∧ Z < 2 ^ 31
/-- thread t has its turn -/
def TRN (n mx d : Nat) (C : Nat × Nat) (c : cd_S) (b : cd_B) (m : md_S) (c1 : cd_S) (m1 : md_S) (D : PD) (t : Nat) (l2 l7 : Int32) (M Y : Nat) : Prop := ∃ h c' b' m', f_X1_goThread n c b t = some (0, c', b') ∧ ble b' b ∧ f_X12_run_L217 n l2 l7 n m = some m' ∧ GOE n mx d Y C c1 m1 D h M c' b' m'
theorem THD.tht {c : cd_S} {m m1 : md_S} {D : PD} {h : HV} {K t : Nat} {F : List FR} (hd : THD c m m1 D h K t F) : THT c m K t := hd.2.1
theorem ready_ok {n K : Nat} {c : cd_S} {m : md_S} (hn : 100 ≤ n) (hK : K ≤ 8) (h40 : cI c 40 0 = nI K) (h105 : mI m 105 = nI K) (hT : ∀ x, x < K → THT c m K x) : f_X1_choose_L4 n n c 0 0 = some (c, nI (nab m K), nI K) ∧ f_X12_ready n m = some (nI (nab m K), m) := by
  obtain ⟨a, b⟩ := ready_L (n := n) hK h40 h105 hT K n n 0 (by omega) (by omega) (by omega)
  refine ⟨a, ?_⟩
  unfold f_X12_ready
  rw [show f_X12_ready_L4 n n m 0 0 = _ from b, bs_some]
theorem loop_ok {n mx d : Nat} {C : Nat × Nat} {c1 : cd_S} {m1 : md_S} {l2 : Int32} (hn : 60000000 ≤ n) (hC : BC C) : ∀ (N : Nat) (D : PD) (c : cd_S) (b : cd_B) (m : md_S) (t l M Y j j2 : Nat) (r : Int32), M ≤ N → TRN n mx d C c b m c1 m1 D t l2 r M Y → t < 8 → cI D.cS 47 0 = l2 → cI D.cS 48 0 = r → Y + 3 < 2 ^ 31 → M < 15000000 → l + N + 1 < 100000000 → N + 1 < j → N + 1 < j2 → ∃ D' c' b' m' l' r', f_X1_goOn_L4 n j c b (nI t) (nI l) = some (c', b', -1, l') ∧ ble b' b ∧ f_X12_run_L212 n l2 j2 m r 1 = some (m', r', 0) ∧ ENDS n mx d C c' b' m' c1 m1 D' ∧ cd_fr [48] [] D.cS D'.cS ∧ D'.mS = D.mS := by
  intro N
  induction N using Nat.strongRecOn with
  | _ N ih =>
    intro D c b m t l M Y j j2 r hMN hT ht8 h47 h48 hY hM hl hj hj2
    obtain ⟨h, c', b', m', e1, e2, e3, e4⟩ := hT
    obtain ⟨j, rfl⟩ : ∃ q, j = q + 1 := ⟨j - 1, by omega⟩
    obtain ⟨j2, rfl⟩ : ∃ q, j2 = q + 1 := ⟨j2 - 1, by omega⟩
    have nl : ¬ (100000000 : Int32) ≤ nI l := fun z => absurd ((nI_leI (a := 100000000) (by decide) (by omega)).mp z) (by omega)
    -- the class's turn
    have cstep : ∀ R : cd_S × cd_B × Int32 × Int32, ble R.2.1 b' → (if (cI c' 44 0) = (2 : Int32) then (f_X1_goOn_J40 n (f_X1_goOn_L4 n j) c' b' (nI l) ((-1))) else (Option.bind (f_X1_choose n c' ) fun p5 => f_X1_goOn_J40 n (f_X1_goOn_L4 n j) p5.2 b' (nI l) (p5.1))) = some R → f_X1_goOn_L4 n (j + 1) c b (nI t) (nI l) = some R := fun R hb hR => by
      rw [u_X1_goOn_L4, if_neg nl, if_neg (show ¬ nI t = (-1 : Int32) from nI_m1 (by omega)), c_strandAt ht8, bs_some]
      dsimp only
      rw [e1, bs_some]
      exact c_ck hR hb.1 hb.2
    have cend : ∀ cx, f_X1_goOn_J40 n (f_X1_goOn_L4 n j) cx b' (nI l) (-1) = some (cx, b', -1, nI (l + 1)) := fun cx => by
      unfold f_X1_goOn_J40
      obtain ⟨i, rfl⟩ : ∃ q, j = q + 1 := ⟨j - 1, by omega⟩
      rw [nI_1, u_X1_goOn_L4]
      by_cases z : (100000000 : Int32) ≤ nI (l + 1)
      · rw [if_pos z]
      · rw [if_neg z, if_pos rfl]
    have mend : ∀ (mx' : md_S) (l9 : Int32), f_X12_run_J253 n l2 (f_X12_run_L212 n l2 j2) mx' r l9 = some (mx', r, 0) := fun mx' l9 => by
      unfold f_X12_run_J253 f_X12_run_J254 f_X12_run_J296
      obtain ⟨i, rfl⟩ : ∃ q, j2 = q + 1 := ⟨j2 - 1, by omega⟩
      rw [if_pos rfl, u_X12_run_L212, if_pos rfl]
    have mstep : f_X12_run_L212 n l2 (j2 + 1) m r 1 = Option.bind (f_X12_ready n m') fun p30 => if (mI p30.2 129) = 0 then (if p30.1 ≤ 0 then (f_X12_run_J253 n l2 (f_X12_run_L212 n l2 j2) p30.2 r (p30.1)) else (f_X12_run_J254 n l2 (f_X12_run_L212 n l2 j2) p30.2 r (p30.1) 1)) else (f_X12_run_J253 n l2 (f_X12_run_L212 n l2 j2) p30.2 r (p30.1)) := by
      rw [u_X12_run_L212, if_neg ne10, e3, bs_some]
    rcases e4 with hcut | ⟨h', Ls', K', st', Fs', Z', -, hr, hMU, hZ⟩
    · obtain ⟨hPG, hB, z44, z129, z128, -, ⟨K, k1, k2, k3, k4⟩, -⟩ := id hcut
      obtain ⟨-, r2⟩ := ready_ok (n := n) (by omega) k1 k2 k3 k4
      refine ⟨D, c', b', m', nI (l + 1), r, cstep _ (ble.refl b') ?_, e2, ?_, Or.inl hcut, cd_fr_refl _ _ _, rfl⟩
      · rw [if_pos z44]; exact cend c'
      · rw [mstep, r2, bs_some]
        dsimp only
        rw [z129, if_neg ne10]
        exact mend m' _
    · obtain ⟨hG, hB, h128, hTH⟩ := id hr
      obtain ⟨k1, k2, k3⟩ := hG.2.1
      have z44 : cI c' 44 0 = 0 := hG.2.2.2.2.2.2.2.2.1
      have z129 : mI m' 129 = 0 := hG.2.2.2.2.2.2.2.2.2
      have hTT : ∀ x, x < K' → THT c' m' K' x := fun x hx => (hTH x hx).tht
      obtain ⟨r1, r2⟩ := ready_ok (n := n) (by omega) k1 k2 k3 hTT
      have hnl := nab_le m' K'
      have hfr := hG.1.1.2.1
      have c47 : cI c' 47 0 = l2 := by rw [cd_frI hfr (by decide) (by decide)]; exact h47
      have c48 : cI c' 48 0 = r := by rw [cd_frI hfr (by decide) (by decide)]; exact h48
      have n44 : ¬ (0 : Int32) = 2 := by decide
      by_cases q0 : nab m' K' = 0
      · refine ⟨D, c', b', m', nI (l + 1), r, cstep _ (ble.refl b') ?_, e2, ?_, Or.inr ⟨Z', h', Ls', K', st', Fs', hr, q0, by omega⟩, cd_fr_refl _ _ _, rfl⟩
        · rw [z44, if_neg n44]
          unfold f_X1_choose
          rw [r1, bs_some]
          dsimp only
          rw [q0, if_pos (show nI 0 = 0 from rfl), bs_some]
          exact cend c'
        · rw [mstep, r2, bs_some]
          dsimp only
          rw [z129, if_pos rfl, q0, if_pos (show nI 0 ≤ (0 : Int32) by decide)]
          exact mend m' _
      · have nz : ¬ nI (nab m' K') = 0 := fun z => q0 ((nI_eq (b := 0) (by omega) (by decide)).mp z)
        have nle : ¬ nI (nab m' K') ≤ (0 : Int32) := fun z => absurd ((nI_leI (b := 0) (by omega) (by decide)).mp z) (by omega)
        -- the same, whatever was drawn
        have go : ∀ (k : Nat) (D2 : PD) (c2 : cd_S) (r' : Int32), k < nab m' K' → RSTS n mx d Z' C c2 b' m' c1 m1 D2 h' Ls' K' st' Fs' → MU D2 mx K' Fs' st' = MU D mx K' Fs' st' → cI D2.cS 47 0 = l2 → cI D2.cS 48 0 = r' → cd_fr [48] [] D.cS D2.cS → D2.mS = D.mS → ∃ t' y m2, f_X1_choose_L76 n n c2 (nI k) 0 = some (c2, y, nI t') ∧ f_X12_choose n m' (nI k) = some (0, m2) ∧ ∃ D' c' b'' m'' l' r'', f_X1_goOn_L4 n j c2 b' (nI t') (nI (l + 1)) = some (c', b'', -1, l') ∧ ble b'' b' ∧ f_X12_run_L212 n l2 j2 m2 r' 1 = some (m'', r'', 0) ∧ ENDS n mx d C c' b'' m'' c1 m1 D' ∧ cd_fr [48] [] D.cS D'.cS ∧ D'.mS = D.mS := by
          intro k D2 c2 r' hk hr2 hmu h472 h482 hf2 hm2
          obtain ⟨hG2, hB2, -, hTH2⟩ := id hr2
          obtain ⟨t', t1, t2, ⟨y, t3⟩, ⟨y', t4⟩⟩ := pick_L (n := n) k1 hG2.2.1.2.1 (fun x hx => (hTH2 x hx).tht) K' n n 0 k (by omega) (by omega) (by omega) (by show 0 + k < _; omega)
          obtain ⟨m2, cc, bb, mm, u1, u2, u3, u4, u5⟩ := turn_ok (n := n) l2 r' hn hC hr2 t1 t2 (by rw [hmu]; omega) (by rw [hmu]; omega)
          obtain ⟨D', c3, b3, m3, l', r'', v1, v2, v3, v4, v5, v6⟩ := ih (MU D2 mx K' Fs' st') (by rw [hmu]; omega) D2 c2 b' m2 t' (l + 1) (MU D2 mx K' Fs' st') (Z' + 2 * MU D2 mx K' Fs' st') j j2 r' (Nat.le_refl _) ⟨h', cc, bb, mm, u2, u3, u4, u5⟩ (by omega) h472 h482 (by rw [hmu]; omega) (by rw [hmu]; omega) (by rw [hmu]; omega) (by rw [hmu]; omega) (by rw [hmu]; omega)
          exact ⟨t', y, m2, t3, u1 _ y' t4, D', c3, b3, m3, l', r'', v1, v2, v3, v4, cd_fr_tr hf2 v5 (fun _ z => ⟨z, z⟩) (fun _ z => ⟨z, z⟩), v6.trans hm2⟩
        by_cases q2 : l2 = 0
        · obtain ⟨t', y, m2, w1, w2, D', c3, b3, m3, l', r'', v1, v2, v3, v4, v5, v6⟩ := go 0 D c' r (by omega) hr rfl h47 h48 (cd_fr_refl _ _ _) rfl
          refine ⟨D', c3, b3, m3, l', r'', cstep _ v2 ?_, v2.tr e2, ?_, v4, v5, v6⟩
          · rw [z44, if_neg n44]
            unfold f_X1_choose f_X1_choose_J74
            rw [r1, bs_some]
            dsimp only
            rw [if_neg nz, c47, if_pos q2, show f_X1_choose_L76 n n c' 0 0 = _ from w1, bs_some, bs_some]
            unfold f_X1_goOn_J40
            dsimp only
            rw [nI_1]
            exact v1
          · rw [mstep, r2, bs_some]
            dsimp only
            rw [z129, if_pos rfl, if_neg nle]
            unfold f_X12_run_J254 f_X12_run_J290 f_X12_run_J296
            rw [if_neg ne10, if_pos q2, show f_X12_choose n m' 0 = _ from w2, bs_some]
            exact v3
        · obtain ⟨r', hr'⟩ : ∃ z, z = r * 1103515245 + 12345 := ⟨_, rfl⟩
          obtain ⟨yy, y1, y2⟩ := ur16 r'
          have hrem := nI_rem (y := yy) (a := nab m' K') (by omega) (by omega) (by omega)
          obtain ⟨t', y, m2, w1, w2, D', c3, b3, m3, l', r'', v1, v2, v3, v4, v5, v6⟩ := go (yy % nab m' K') (D48 D r') (cSI c' 48 0 r') r' (Nat.mod_lt _ (by omega)) (RSTS48 r' hr) (MU48 D r' mx K' st' Fs') (by show cI (cSI D.cS 48 0 r') 47 0 = l2; rw [cI_SIo (by decide)]; exact h47) (by show cI (cSI D.cS 48 0 r') 48 0 = r'; exact cI_SIe) (cd_fr_SI (cd_fr_refl _ _ _) (by simp) (by decide) _ _) rfl
          have hnz : md_nz (nI (nab m' K')) = some 0 := if_neg nz
          refine ⟨D', c3, b3, m3, l', r'', cstep _ v2 ?_, v2.tr e2, ?_, v4, v5, v6⟩
          · rw [z44, if_neg n44]
            unfold f_X1_choose f_X1_choose_J74
            rw [r1, bs_some]
            dsimp only
            rw [if_neg nz, c47, if_neg q2, bs_some, c48, ← hr', hnz, bs_some, cI_SIe, y2, hrem, w1, bs_some, bs_some]
            unfold f_X1_goOn_J40
            dsimp only
            rw [nI_1]
            exact v1
          · rw [mstep, r2, bs_some]
            dsimp only
            rw [z129, if_pos rfl, if_neg nle]
            unfold f_X12_run_J254 f_X12_run_J290 f_X12_run_J296
            rw [if_neg ne10, if_neg q2, hnz, bs_some, ← hr', y2, hrem, w2, bs_some]
            exact v3
