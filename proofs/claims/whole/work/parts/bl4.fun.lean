/-! a function as a value -/
theorem PG.un {n d u : Nat} {c c1 : cd_S} {m m1 : md_S} {D : PD} (h : PG n c m d c1 m1 D) (hu : u < mN m1 35) : (∃ q, q ≤ 13 ∧ aN m1 44 u = q ∧ mA m 44 u = nI q ∧ cI c 299 u = nI q) ∧ (∃ p, p ≤ 3 ∧ aN m1 39 u = p ∧ mA m 39 u = nI p ∧ cI c 294 u = nI p) ∧ (∃ s, s ≤ 4 ∧ mA m1 36 u = nI s ∧ mA m 36 u = nI s ∧ cI c 289 u = nI s) ∧ cI c 288 u = nI u ∧ u < 60 := by
  obtain ⟨c0, hO, hc⟩ := h.o
  have hm := h.2.2.2.1
  have hb := h.tb.1.1
  obtain ⟨u1, ⟨s, s1, s2⟩, -, -, -, u6, ⟨p, p1, p2⟩, -, -, ⟨q, q1, q2, q3, -⟩, -⟩ := hO.2.2.2.1 u hu
  refine ⟨⟨q, q1, aN_of q3 (by omega), by rw [(hm 44 (by decide)).2.2.1]; exact q3, by rw [(hc 299 (by decide)).1]; exact q2⟩, ⟨p, p1, aN_of p2 (by omega), by rw [(hm 39 (by decide)).2.2.1]; exact p2, by rw [(hc 294 (by decide)).1, u6]; exact p2⟩, ⟨s, s1, s2, by rw [(hm 36 (by decide)).2.2.1]; exact s2, by rw [(hc 289 (by decide)).1, u1]; exact s2⟩, (h.2.2.2.2.2 u hu).2.2.2.2.1.1, by omega⟩
theorem MWk.nth {m : md_S} {t k cb o q : Nat} {rw : Bool} {V : List Int64} : ∀ {X : List Int64}, MWk m t rw k cb o q (X ++ V) → (∀ v, v ∈ X → vS v ≠ 5) → ∀ i (h : i < X.length), mA m 121 (9000 * t + (o + vln V + (X.length - 1 - i))) = vS X[i] ∧ mA m 122 (9000 * t + (o + vln V + (X.length - 1 - i))) = mv rw X[i]
  | x :: X, hw, hx, 0, _ => by
      have h1 := hw.1
      rw [if_neg (hx x (by simp))] at h1
      have e : vln (X ++ V) = X.length + vln V := by
        rw [(mln_app X V).2]
        congr 1
        have : ∀ {Y : List Int64}, (∀ v, v ∈ Y → vS v ≠ 5) → vln Y = Y.length := by
          intro Y
          induction Y with
          | nil => exact fun _ => rfl
          | cons y Y ih =>
            intro hy
            show (if vS y = 5 then 0 else 1) + vln Y = _
            rw [if_neg (hy y (by simp)), ih (fun v hv => hy v (by simp [hv])), List.length_cons]
            omega
        exact this (fun v hv => hx v (by simp [hv]))
      rw [show X.append V = X ++ V from rfl, e] at h1
      rw [List.length_cons, show X.length + 1 - 1 - 0 = X.length by omega, show o + vln V + X.length = o + (X.length + vln V) by omega]
      exact h1
  | x :: X, hw, hx, i + 1, hi => by
      have hi' : i < X.length := by rw [List.length_cons] at hi; omega
      have := MWk.nth hw.2 (fun v hv => hx v (by simp [hv])) i hi'
      rw [List.getElem_cons_succ, List.length_cons, show X.length + 1 - 1 - (i + 1) = X.length - 1 - i by omega]
      exact this
theorem vlnX : ∀ {Y : List Int64}, (∀ v, v ∈ Y → vS v ≠ 5) → vln Y = Y.length
  | [], _ => rfl
  | y :: Y, hy => by
      show (if vS y = 5 then 0 else 1) + vln Y = _
      rw [if_neg (hy y (by simp)), vlnX (fun v hv => hy v (by simp [hv])), List.length_cons]
      omega
/-- the class copies what a function captures -/
theorem c_funL {n t u N F : Nat} {C : Nat × Nat} {c0 : cd_S} {l3 : Int32} {g : Nat → Int64} (hC : BC C) (ht : t < 8) (hN : N < 100) (h299 : cI c0 299 u = nI N) (hF : F + N < 1000000) (hrz : F + N ≤ rsz c0 (9 + t)) (hg : ∀ i, i < N → cRF c0 (9 + t) (F + i) = g i) : ∀ (e j i : Nat) (c : cd_S) (b : cd_B), i + e = N → e < j → Bd C c b → cd_fr [] [7] c0 c → rsz c 7 + e ≤ 65536 → ∃ c' b', f_X1_makeFun_L43 n t u l3 (nI F) j c b (nI i) = some (c', b', nI N) ∧ Bd C c' b' ∧ ble b' b ∧ cd_fr [] [7] c0 c' ∧ rsz c' 7 = rsz c 7 + e ∧ (∀ j, j < rsz c 7 → cRF c' 7 j = cRF c 7 j) ∧ ∀ j, j < e → cRF c' 7 (rsz c 7 + j) = g (i + j) := by
  intro e
  induction e with
  | zero =>
    intro j i c b hi hj hB hfr hz
    obtain ⟨j, rfl⟩ : ∃ q, j = q + 1 := ⟨j - 1, by omega⟩
    have hiN : i = N := by omega
    subst hiN
    refine ⟨c, b, ?_, hB, ble.refl b, hfr, rfl, fun _ _ => rfl, fun j a => by omega⟩
    rw [u_X1_makeFun_L43, cd_frI hfr (by simp) (by decide), h299, if_pos ((nI_leI (by omega) (by omega)).mpr (Nat.le_refl _))]
  | succ e ih =>
    intro j i c b hi hj hB hfr hz
    obtain ⟨j, rfl⟩ : ∃ q, j = q + 1 := ⟨j - 1, by omega⟩
    have hcap : rcap 7 = 65536 := by decide
    obtain ⟨b1, d1, e1, f1, g1⟩ := c_add (n := n) (v := g i) hC hB (r := 7) (by omega) (by omega)
    have y1 : rsz (rAdd c 7 (g i)) 7 = rsz c 7 + 1 := rAdd_sz (by omega)
    have k0 := (hB.1 7 (by omega)).2.1
    obtain ⟨c', b', k1, k2, k3, k4, k5, k6, k7⟩ := ih j (i + 1) (rAdd c 7 (g i)) b1 (by omega) (by omega) e1 (cd_fr_add hfr (by simp) _) (by omega)
    have hr9 : 9 + t ∉ [7] := by simp; omega
    refine ⟨c', b', ?_, k2, ⟨Nat.le_trans k3.1 f1, Nat.le_trans k3.2 g1⟩, k4, by omega, fun q hq => ?_, fun q a => ?_⟩
    · rw [u_X1_makeFun_L43, cd_frI hfr (by simp) (by decide), h299, if_neg (fun z => absurd ((nI_leI (by omega) (by omega)).mp z) (by omega)), Nat.one_mul, nI_add, c_get (hB.1 (9 + t) (by omega)) (by omega), if_pos (by rw [rsz_e (cd_frz hfr hr9)]; omega), bs_some]
      dsimp only
      rw [cd_frF hfr hr9, hg i (by omega), d1, bs_some]
      refine c_ck ?_ k3.1 k3.2
      dsimp only
      rw [nI_1]
      exact k1
    · rw [k6 q (by omega), rAdd_Fl k0 hq]
    · by_cases qe : q = 0
      · rw [qe, Nat.add_zero, Nat.add_zero, k6 _ (by omega), rAdd_Fe]
      · have := k7 (q - 1) (by omega)
        rw [y1, show rsz c 7 + 1 + (q - 1) = rsz c 7 + q by omega, show i + 1 + (q - 1) = i + q by omega] at this
        exact this
/-- the model copies -/
theorem m_cloL {n t u f N H y : Nat} {m0 : md_S} (ht : t < 8) (hu : u < 60) (hf : f < 2000) (hN : N < 100) (hH : H + N < 66000) (hy : y + N < 9000) (h44 : mA m0 44 u = nI N) (h97 : mA m0 97 f = nI H) (h120 : mA m0 120 t = nI y) (hme : mI m0 127 = nI t) : ∀ (e j i : Nat) (m : md_S), i + e = N → e < j → md_fr [99, 100] m0 m → (∀ q, mA m 99 q = if H ≤ q ∧ q < H + i then mA m0 121 (9000 * t + y + (q - H)) else mA m0 99 q) → (∀ q, mA m 100 q = if H ≤ q ∧ q < H + i then mA m0 122 (9000 * t + y + (q - H)) else mA m0 100 q) → ∃ m', f_X12_closes_L49 n (nI u) (nI f) j m (nI i) = some (m', nI N) ∧ md_fr [99, 100] m0 m' ∧ (∀ q, mA m' 99 q = if H ≤ q ∧ q < H + N then mA m0 121 (9000 * t + y + (q - H)) else mA m0 99 q) ∧ (∀ q, mA m' 100 q = if H ≤ q ∧ q < H + N then mA m0 122 (9000 * t + y + (q - H)) else mA m0 100 q) := by
  intro e
  induction e with
  | zero =>
    intro j i m hi hj hfr h99 h100
    obtain ⟨j, rfl⟩ : ∃ q, j = q + 1 := ⟨j - 1, by omega⟩
    have hiN : i = N := by omega
    subst hiN
    exact ⟨m, by rw [u_X12_closes_L49, m_ld44 hu, bs_some, md_frA hfr (by decide), h44, if_pos ((nI_leI (by omega) (by omega)).mpr (Nat.le_refl _))], hfr, h99, h100⟩
  | succ e ih =>
    intro j i m hi hj hfr h99 h100
    obtain ⟨j, rfl⟩ : ∃ q, j = q + 1 := ⟨j - 1, by omega⟩
    obtain ⟨A, eA⟩ : ∃ A, A = mA m0 121 (9000 * t + y + i) := ⟨_, rfl⟩
    obtain ⟨B, eB⟩ : ∃ B, B = mA m0 122 (9000 * t + y + i) := ⟨_, rfl⟩
    obtain ⟨m', k1, k2, k3, k4⟩ := ih j (i + 1) (mSA (mSA m 99 (H + i) A) 100 (H + i) B) (by omega) (by omega) (md_fr_SA (md_fr_SA hfr (by simp) _ _) (by simp) _ _) (fun q => by
      rw [mA_SAo (by decide), mA_SA, if_pos rfl, h99]
      by_cases z : q = H + i
      · rw [if_pos z, if_pos ⟨by omega, by omega⟩, z, eA, show H + i - H = i by omega]
      · rw [if_neg z]
        by_cases y : H ≤ q ∧ q < H + i
        · rw [if_pos y, if_pos ⟨y.1, by omega⟩]
        · rw [if_neg y, if_neg (fun x => y ⟨x.1, by omega⟩)]) (fun q => by
      rw [mA_SA, if_pos rfl, mA_SAo (by decide), h100]
      by_cases z : q = H + i
      · rw [if_pos z, if_pos ⟨by omega, by omega⟩, z, eB, show H + i - H = i by omega]
      · rw [if_neg z]
        by_cases y : H ≤ q ∧ q < H + i
        · rw [if_pos y, if_pos ⟨y.1, by omega⟩]
        · rw [if_neg y, if_neg (fun x => y ⟨x.1, by omega⟩)])
    refine ⟨m', ?_, k2, k3, k4⟩
    have f97 : ∀ q, mA m 97 q = mA m0 97 q := fun q => md_frA hfr (by decide) q
    have f120 : ∀ q, mA m 120 q = mA m0 120 q := fun q => md_frA hfr (by decide) q
    have f127 : mI m 127 = nI t := by rw [md_frI hfr (by decide)]; exact hme
    rw [u_X12_closes_L49, m_ld44 hu, bs_some, md_frA hfr (by decide), h44, if_neg (fun z => absurd ((nI_leI (by omega) (by omega)).mp z) (by omega)), m_ld97 hf, bs_some, f97, h97, f127, m_ld120 ht, bs_some, f120, h120, show (9000 : Int32) = nI 9000 from rfl, nI_mul, nI_add, nI_add, nI_add, m_ld121 (by omega), bs_some, md_frA hfr (by decide), ← eA, m_st99 (by omega), bs_some, m_ld97 hf, bs_some, mA_SAo (by decide), f97, h97, nI_add, mI_SA, f127, m_ld120 ht, bs_some, mA_SAo (by decide), f120, h120, nI_mul, nI_add, nI_add, m_ld122 (by omega), bs_some, mA_SAo (by decide), md_frA hfr (by decide), ← eB, m_st100 (by omega), bs_some, nI_1]
    exact k1
