/-! is a right granted: by a context; by the frames -/
theorem grtL {n k : Nat} {c : cd_S} {m : md_S} {Ls : List (List Int32)} {x : Int32} (h : CTX c m Ls) (hk : k < Ls.length) (hz : Ls.length < 4001) : ∀ (r j i : Nat), i + r = Ls[k].length → r + 1 < j → (∃ i', f_X0_grants_L14 n (nI k) x j c 0 (nI i) = some (c, 1, i') ∧ f_X12_isGrantedBy_L2 n (nI (k + 1)) x j m (nI i) = some (Sum.inl (1, m))) ∨ (∃ i' i'', f_X0_grants_L14 n (nI k) x j c 0 (nI i) = some (c, 0, i') ∧ f_X12_isGrantedBy_L2 n (nI (k + 1)) x j m (nI i) = some (Sum.inr (m, i'')))
  | 0, j + 1, i, hi, _ => by
    have h13 := h.2.1.le k hk
    obtain ⟨a1, a2, a3⟩ := h.1.2 (k + 1) (by simp; omega)
    rw [List.getElem_cons_succ] at a1
    right
    rw [u_X0_grants_L14, if_pos rfl, c_pCount h.2.1 hk, bs_some, if_pos ((nI_leI (by omega) (by omega)).mpr (by omega)), u_X12_isGrantedBy_L2, m_ld131 (by omega), bs_some, a1, if_pos ((nI_leI (by omega) (by omega)).mpr (by omega))]
    exact ⟨_, _, rfl, rfl⟩
  | r + 1, j + 1, i, hi, hj => by
    have h13 := h.2.1.le k hk
    obtain ⟨a1, a2, a3⟩ := h.1.2 (k + 1) (by simp; omega)
    rw [List.getElem_cons_succ] at a1
    have a4 : mA m 132 (16 * (k + 1) + i) = Ls[k][i] := a3 i (by rw [List.getElem_cons_succ]; omega)
    obtain ⟨j, rfl⟩ : ∃ j', j = j' + 1 := ⟨j - 1, by omega⟩
    rw [u_X0_grants_L14, if_pos rfl, c_pCount h.2.1 hk, bs_some, if_neg (fun z => absurd ((nI_leI (by omega) (by omega)).mp z) (by omega)), c_product h.2.1 hk (by omega), bs_some, u_X12_isGrantedBy_L2, m_ld131 (by omega), bs_some, a1, if_neg (fun z => absurd ((nI_leI (by omega) (by omega)).mp z) (by omega)), show (16 : Int32) = nI 16 from rfl, nI_mul, nI_add, m_ld132 (by omega), bs_some, a4]
    dsimp only
    by_cases q : Ls[k][i] &&& (x ^^^ (-1)) = 0
    · rw [if_pos q, if_pos q, f_X0_grants_J47, u_X0_grants_L14, if_neg (by decide)]
      exact Or.inl ⟨_, rfl, rfl⟩
    · rw [if_neg q, if_neg q, f_X0_grants_J47, nI_1]
      exact grtL h hk hz r (j + 1) (i + 1) (by omega) (by omega)
theorem grants_ok {n o : Nat} {c : cd_S} {m : md_S} {Ls : List (List Int32)} (x : Int32) (hn : 100 ≤ n) (h : CTX c m Ls) (ho : o < ([0] :: Ls).length) (hz : Ls.length < 4001) : ∃ r, f_X0_grants n c (cnI o) x = some (r, c) ∧ f_X12_isGrantedBy n m (nI o) x = some (r, m) ∧ (r = 0 ∨ r = 1) := by
  unfold f_X0_grants f_X12_isGrantedBy
  cases o with
  | zero =>
    obtain ⟨n', rfl⟩ : ∃ n', n = n' + 1 := ⟨n - 1, by omega⟩
    obtain ⟨a1, a2, a3⟩ := h.1.2 0 (by simp)
    have a4 : mA m 132 0 = 0 := a3 0 (by simp)
    have a5 : mA m 131 0 = nI 1 := a1
    refine ⟨1, ?_, ?_, Or.inr rfl⟩
    · rw [if_pos (show cnI 0 = (-1 : Int32) from rfl), f_X0_grants_J10, u_X0_grants_L14, if_neg (by decide)]
      rfl
    · rw [u_X12_isGrantedBy_L2, m_ld131 (by omega), bs_some, a5, if_neg (show ¬ nI 1 ≤ 0 by decide), show (16 : Int32) * nI 0 + 0 = nI 0 by decide, m_ld132 (by omega), bs_some, a4, if_pos (show (0 : Int32) &&& (x ^^^ (-1)) = 0 from Int32.zero_and)]
      rfl
  | succ k =>
    have hk : k < Ls.length := by simpa using ho
    have h13 := h.2.1.le k hk
    have e : cnI (k + 1) = nI k := by unfold cnI; rw [if_neg (by omega)]; rfl
    rw [e, if_neg (show ¬ nI k = (-1 : Int32) from nI_m1 (by omega)), f_X0_grants_J10]
    rcases grtL (n := n) (x := x) h hk hz Ls[k].length n 0 (by omega) (by omega) with ⟨i', g1, g2⟩ | ⟨i', i'', g1, g2⟩
    · rw [show nI 0 = 0 from rfl] at g1 g2
      rw [g1, g2, bs_some, bs_some]
      exact ⟨1, rfl, rfl, Or.inr rfl⟩
    · rw [show nI 0 = 0 from rfl] at g1 g2
      rw [g1, g2, bs_some, bs_some]
      exact ⟨0, rfl, rfl, Or.inl rfl⟩
/-- what of a unit the asking of rights wants to know -/
def UFD (c : cd_S) (m : md_S) : Prop := mN m 35 ≤ 60 ∧ ∀ u, u < mN m 35 → ∃ t d s w, t < 8 ∧ mA m 37 u = nI t ∧ d < 8 ∧ mA m 32 t = nI d ∧ cI c 291 u = nI d ∧ s < 100 ∧ mA m 36 u = nI s ∧ cI c 289 u = nI s ∧ w ≤ 12 ∧ (if s = 3 then 0 < w ∧ cI c 296 u = nI (w - 1) ∧ mA m 42 u = nI (w - 1) else w = 0)
/-- none, or a number below k -/
def PRV (x : Int32) (k : Nat) : Prop := x = -1 ∨ ∃ y, y < k ∧ x = nI y
/-- the frames that were, on both sides -/
def NDS (c : cd_S) (m : md_S) (N : Nat) : Prop := RowOk c 5 ∧ rsz c 5 = 3 * N ∧ N ≤ 4000 ∧ ∀ k, k < N → ∃ u x z, u < mN m 35 ∧ cRF c 5 (3 * k) = (nI u).toInt64 ∧ cRF c 5 (3 * k + 1) = x.toInt64 ∧ mA m 102 k = nI u ∧ mA m 103 k = x ∧ PRV x k ∧ (mA m 36 u = nI 4 → cRF c 5 (3 * k + 2) = z.toInt64 ∧ mA m 104 k = z ∧ PRV z k)
theorem wkL {n N0 : Nat} {x : Int32} : ∀ (N j e : Nat) (c : cd_S) (m : md_S) (v : Int32), N ≤ N0 → PRV v N → N < j → e + N ≤ 4000 → NDS c m N0 → UFD c m → cI c 46 0 = mI m 94 → ∃ r c' m', ((f_X1_walk_L5 n x j c v (nI e) = some (Sum.inl (r, c')) ∧ f_X12_isGrantedIn_L2 n x j m v = some (Sum.inl (r, m'))) ∨ (r = 1 ∧ ∃ y z, f_X1_walk_L5 n x j c v (nI e) = some (Sum.inr (c', y, z)) ∧ ∃ w, f_X12_isGrantedIn_L2 n x j m v = some (Sum.inr (m', w)))) ∧ (r = 0 ∨ r = 1) ∧ cd_fr [46] [] c c' ∧ md_fr [94] m m' ∧ cI c' 46 0 = mI m' 94 := by
  intro N
  induction N using Nat.strongRecOn with
  | _ N ih =>
  intro j e c m v hN hv hj he hD hU hq
  obtain ⟨j, rfl⟩ : ∃ j', j = j' + 1 := ⟨j - 1, by omega⟩
  have h4 : ¬ (4000 : Int32) < nI e := fun z => absurd ((nI_ltI (a := 4000) (by decide) (by omega)).mp z) (by omega)
  rcases hv with hv | ⟨y, hy, hv⟩
  · refine ⟨1, c, m, Or.inr ⟨rfl, v, nI e, ?_, v, ?_⟩, Or.inr rfl, cd_fr_refl _ _ _, md_fr_refl _ _, hq⟩
    · rw [u_X1_walk_L5, if_neg h4, if_pos hv]
    · rw [u_X12_isGrantedIn_L2, if_pos hv]
  · obtain ⟨hR, hZ, hN4, hE⟩ := hD
    obtain ⟨u, p, z, e1, e2, e3, e4, e5, e6, e7⟩ := hE y (by omega)
    obtain ⟨t, d, s, w, u1, u2, u3, u4, u5, u6, u7, u8, u9, u10⟩ := hU.2 u e1
    have hu60 : u < 60 := by have := hU.1; omega
    have hR' : RowOk (cSI c 46 0 (cI c 46 0 + 1)) 5 := hR
    have hZ' : rsz (cSI c 46 0 (cI c 46 0 + 1)) 5 = 3 * N0 := hZ
    have rd : ∀ i (w : Int32), i < 3 * N0 → cRF c 5 i = w.toInt64 → f_X6_at n (cSI c 46 0 (cI c 46 0 + 1)) 5 (nI i) = some (w, cSI c 46 0 (cI c 46 0 + 1)) := fun i w hi hw => by
      rw [c_at hR' (by omega), if_pos (by rw [hZ']; exact hi), show cRF (cSI c 46 0 (cI c 46 0 + 1)) 5 i = cRF c 5 i from rfl, hw, i6432]
    have fc : cd_fr [46] [] c (cSI c 46 0 (cI c 46 0 + 1)) := cd_fr_SI (cd_fr_refl c [46] []) (by simp) (by decide) _ _
    have fm : md_fr [94] m (mSI m 94 (mI m 94 + 1)) := md_fr_SI (md_fr_refl m [94]) (by simp) _
    have hq' : cI (cSI c 46 0 (cI c 46 0 + 1)) 46 0 = mI (mSI m 94 (mI m 94 + 1)) 94 := by rw [cI_SIe, mI_SIe, hq]
    have hD' : NDS (cSI c 46 0 (cI c 46 0 + 1)) (mSI m 94 (mI m 94 + 1)) N0 := ⟨hR', hZ', hN4, fun k hk => hE k hk⟩
    have hU' : UFD (cSI c 46 0 (cI c 46 0 + 1)) (mSI m 94 (mI m 94 + 1)) := hU
    rw [u_X1_walk_L5, if_neg h4, if_neg (show ¬ v = (-1 : Int32) by rw [hv]; exact nI_m1 (by omega)), u_X12_isGrantedIn_L2, if_neg (show ¬ v = (-1 : Int32) by rw [hv]; exact nI_m1 (by omega)), bs_some, bs_some, hv, show (3 : Int32) = nI 3 from rfl, nI_mul, Nat.mul_comm y 3, rd _ _ (by omega) e2, bs_some]
    dsimp only
    rw [c_unitAt hu60, bs_some]
    dsimp only
    rw [cI_SIo (by decide), u5, m_ld102 (by omega), bs_some, mA_SI, e4, m_ld37 hu60, bs_some, mA_SI, u2, m_ld32 u1, bs_some, mA_SI, u4, bt_c (by omega), bt_m (by omega)]
    have nx : ∀ (v' : Int32), PRV v' y → ∃ r c' m', ((f_X1_walk_L5 n x j (cSI c 46 0 (cI c 46 0 + 1)) v' (nI (e + 1)) = some (Sum.inl (r, c')) ∧ f_X12_isGrantedIn_L2 n x j (mSI m 94 (mI m 94 + 1)) v' = some (Sum.inl (r, m'))) ∨ (r = 1 ∧ ∃ y z, f_X1_walk_L5 n x j (cSI c 46 0 (cI c 46 0 + 1)) v' (nI (e + 1)) = some (Sum.inr (c', y, z)) ∧ ∃ w, f_X12_isGrantedIn_L2 n x j (mSI m 94 (mI m 94 + 1)) v' = some (Sum.inr (m', w)))) ∧ (r = 0 ∨ r = 1) ∧ cd_fr [46] [] c c' ∧ md_fr [94] m m' ∧ cI c' 46 0 = mI m' 94 := fun v' hp => by
      obtain ⟨r, c', m', g1, g2, g3, g4, g5⟩ := ih y hy j (e + 1) _ _ v' (by omega) hp (by omega) (by omega) hD' hU' hq'
      exact ⟨r, c', m', g1, g2, cd_fr_tr fc g3 (fun _ q => ⟨q, q⟩) (fun _ q => ⟨q, q⟩), md_fr_tr fm g4 (fun _ q => ⟨q, q⟩), g5⟩
    by_cases q : bt x d = true
    · rw [if_pos q, if_neg ne10, if_neg ne10, cI_SIo (by decide), u8, m_ld36 hu60, bs_some, mA_SI, u7]
      have s2 : nI s = (2 : Int32) ↔ s = 2 := nI_eq (b := 2) (by omega) (by decide)
      have s3 : nI s = nI 3 ↔ s = 3 := nI_eq (b := 3) (by omega) (by decide)
      have s4 : nI s = (4 : Int32) ↔ s = 4 := nI_eq (b := 4) (by omega) (by decide)
      have j0 : s ≠ 2 → ∃ r c' m', ((f_X1_walk_J89 n x (f_X1_walk_L5 n x j) (cSI c 46 0 (cI c 46 0 + 1)) (nI y) (nI e) u = some (Sum.inl (r, c')) ∧ f_X12_isGrantedIn_J88 n x (f_X12_isGrantedIn_L2 n x j) (mSI m 94 (mI m 94 + 1)) (nI y) (nI u) = some (Sum.inl (r, m'))) ∨ (r = 1 ∧ ∃ y' z, f_X1_walk_J89 n x (f_X1_walk_L5 n x j) (cSI c 46 0 (cI c 46 0 + 1)) (nI y) (nI e) u = some (Sum.inr (c', y', z)) ∧ ∃ w, f_X12_isGrantedIn_J88 n x (f_X12_isGrantedIn_L2 n x j) (mSI m 94 (mI m 94 + 1)) (nI y) (nI u) = some (Sum.inr (m', w)))) ∧ (r = 0 ∨ r = 1) ∧ cd_fr [46] [] c c' ∧ md_fr [94] m m' ∧ cI c' 46 0 = mI m' 94 := fun n2 => by
        rw [f_X1_walk_J89, f_X1_walk_J90, cI_SIo (by decide), u8, if_neg (fun z => n2 (s2.mp z)), if_pos rfl, f_X12_isGrantedIn_J88, m_ld36 hu60, bs_some, mA_SI, u7]
        by_cases q4 : s = 4
        · obtain ⟨f1, f2, f3⟩ := e7 (by rw [u7, q4])
          rw [if_pos (s4.mpr q4), if_pos (s4.mpr q4), f_X1_walk_J129, show (3 : Int32) = nI 3 from rfl, nI_mul, Nat.mul_comm y 3, show (2 : Int32) = nI 2 from rfl, nI_add, rd _ _ (by omega) f1, bs_some, nI_1, m_ld104 (by omega), bs_some, mA_SI, f2, f_X12_isGrantedIn_J114]
          exact nx z f3
        · rw [if_neg (fun z => q4 (s4.mp z)), if_neg (fun z => q4 (s4.mp z)), f_X1_walk_J129, show (3 : Int32) = nI 3 from rfl, nI_mul, Nat.mul_comm y 3, nI_1, rd _ _ (by omega) e3, bs_some, nI_1, m_ld103 (by omega), bs_some, mA_SI, e5, f_X12_isGrantedIn_J114]
          exact nx p e6
      by_cases q2 : s = 2
      · rw [if_neg (fun z => by have := s3.mp z; omega), f_X1_walk_J89, f_X1_walk_J90, cI_SIo (by decide), u8, if_pos (s2.mpr q2), if_pos (s2.mpr q2)]
        exact ⟨1, _, _, Or.inl ⟨rfl, rfl⟩, Or.inr rfl, fc, fm, hq'⟩
      · rw [if_neg (show ¬ nI s = (2 : Int32) from fun z => q2 (s2.mp z)), bs_some]
        by_cases q3 : s = 3
        · rw [if_pos q3] at u10
          rw [if_pos (s3.mpr q3), if_pos (s3.mpr q3), cI_SIo (by decide), u10.2.1, m_ld42 hu60, bs_some, mA_SI, u10.2.2, show (8 : Int32) = nI 8 from rfl, nI_add, bt_c (by omega), bt_m (by omega)]
          by_cases qb : bt x (8 + (w - 1)) = true
          · rw [if_pos qb, if_neg ne10, if_pos (show (1 : Int32) = 1 from rfl), f_X1_walk_J90, cI_SIo (by decide), u8, if_neg (show ¬ nI s = (2 : Int32) from fun z => q2 (s2.mp z)), if_neg ne10]
            exact ⟨1, _, _, Or.inl ⟨rfl, rfl⟩, Or.inr rfl, fc, fm, hq'⟩
          · rw [if_neg qb, if_pos (show (0 : Int32) = 0 from rfl), if_neg (show ¬ (0 : Int32) = 1 by decide)]
            exact j0 q2
        · rw [if_neg (show ¬ nI s = nI 3 from fun z => q3 (s3.mp z)), if_neg (show ¬ nI s = nI 3 from fun z => q3 (s3.mp z))]
          exact j0 q2
    · rw [if_neg q, if_pos (show (0 : Int32) = 0 from rfl), if_pos (show (0 : Int32) = 0 from rfl)]
      exact ⟨0, _, _, Or.inl ⟨rfl, rfl⟩, Or.inl rfl, fc, fm, hq'⟩
theorem walk_ok {n N : Nat} {c : cd_S} {m : md_S} {v : Int32} (x : Int32) (hn : 4100 ≤ n) (hv : PRV v N) (hD : NDS c m N) (hU : UFD c m) (hq : cI c 46 0 = mI m 94) : ∃ r c' m', f_X1_walk n c v x = some (r, c') ∧ f_X12_isGrantedIn n m v x = some (r, m') ∧ (r = 0 ∨ r = 1) ∧ cd_fr [46] [] c c' ∧ md_fr [94] m m' ∧ cI c' 46 0 = mI m' 94 := by
  have h4 := hD.2.2.1
  obtain ⟨r, c', m', g1, g2, g3, g4, g5⟩ := wkL (n := n) (x := x) N n 0 c m v (Nat.le_refl _) hv (by omega) (by omega) hD hU hq
  rw [show nI 0 = 0 from rfl] at g1
  unfold f_X1_walk f_X12_isGrantedIn
  refine ⟨r, c', m', ?_, ?_, g2, g3, g4, g5⟩
  · rcases g1 with ⟨a1, a2⟩ | ⟨e, y, z, a1, w, a2⟩
    · rw [a1, bs_some]; rfl
    · rw [a1, bs_some, e]; rfl
  · rcases g1 with ⟨a1, a2⟩ | ⟨e, y, z, a1, w, a2⟩
    · rw [a2, bs_some]; rfl
    · rw [a2, bs_some, e]; rfl
