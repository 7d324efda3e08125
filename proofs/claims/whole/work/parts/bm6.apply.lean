/-! a function is applied: what is copied -/
theorem rcap_s {T : Nat} (hT : T < 8) : rcap (9 + T) = 32768 := by
  unfold rcap rc0 rck
  simp only [show ¬ 9 + T = 0 by omega, show ¬ 9 + T = 1 by omega, show ¬ 9 + T = 2 by omega, show ¬ 9 + T = 3 by omega, show ¬ 9 + T = 4 by omega, show ¬ 9 + T = 5 by omega, show ¬ 9 + T = 6 by omega, show ¬ 9 + T = 7 by omega, show ¬ 9 + T = 8 by omega, show 9 + T < 17 by omega, if_true, if_false]
/-- a value on a strand's stack -/
theorem c_push1 {n T S : Nat} {C : Nat × Nat} {c : cd_S} {b : cd_B} {v : Int64} (hC : BC C) (hB : Bd C c b) (hT : T < 8) (hz : rsz c (9 + T) = S) (hS : S < 32768) : ∃ c' b', f_X1_push n c b T v = some (0, c', b') ∧ Bd C c' b' ∧ ble b' b ∧ OPC [] T c c' ∧ rsz c' (9 + T) = S + 1 ∧ (∀ q, q < S → cRF c' (9 + T) q = cRF c (9 + T) q) ∧ cRF c' (9 + T) S = v := by
  obtain ⟨b', d1, d2, d3, d4⟩ := c_add (n := n) (v := v) hC hB (r := 9 + T) (by omega) (by rw [rcap_s hT, hz]; exact hS)
  refine ⟨rAdd c (9 + T) v, b', ?_, d2, ⟨d3, d4⟩, opc_add, by rw [rAdd_sz (by omega), hz], fun q hq => rAdd_Fl (hB.1 (9 + T) (by omega)).2.1 (by omega), by rw [← hz, rAdd_Fe]⟩
  unfold f_X1_push
  refine c_ck ?_ d3 d4
  rw [Nat.one_mul, d1, bs_some]
  exact c_ck rfl (Nat.le_refl _) (Nat.le_refl _)
theorem c_pcapL {n T u N S a : Nat} {C : Nat × Nat} {c0 : cd_S} {fv : Int64} {g : Nat → Int64} (hC : BC C) (hT : T < 8) (hN : N < 100) (hS : S + N < 32768) (ha : a + N < 1000000) (h299 : cI c0 299 u = nI N) (hslot : ∀ c b, Bd C c b → cd_fr [] [9 + T] c0 c → f_X1_slotsOf n c fv = some (nI a, c)) (hg : ∀ i, i < N → a + i < rsz c0 7 ∧ cRF c0 7 (a + i) = g i) : ∀ (e j i : Nat) (c : cd_S) (b : cd_B), i + e = N → e < j → Bd C c b → OPC [] T c0 c → rsz c (9 + T) = S + i → ∃ c' b', f_X1_pushCaptured_L3 n T u fv j c b (nI i) = some (c', b', nI N) ∧ Bd C c' b' ∧ ble b' b ∧ OPC [] T c0 c' ∧ rsz c' (9 + T) = S + N ∧ (∀ q, q < S + i → cRF c' (9 + T) q = cRF c (9 + T) q) ∧ ∀ q, i ≤ q → q < N → cRF c' (9 + T) (S + q) = g q := by
  intro e
  induction e with
  | zero =>
    intro j i c b hi hj hB hfr hz
    obtain ⟨j, rfl⟩ : ∃ q, j = q + 1 := ⟨j - 1, by omega⟩
    have hiN : i = N := by omega
    subst hiN
    refine ⟨c, b, ?_, hB, ble.refl b, hfr, hz, fun _ _ => rfl, fun q x y => by omega⟩
    rw [u_X1_pushCaptured_L3, cd_frI hfr.1 (by simp) (by decide), h299, if_pos ((nI_leI (by omega) (by omega)).mpr (Nat.le_refl _))]
  | succ e ih =>
    intro j i c b hi hj hB hfr hz
    obtain ⟨j, rfl⟩ : ∃ q, j = q + 1 := ⟨j - 1, by omega⟩
    obtain ⟨c1, b1, p1, p2, p3, p4, p5, p6, p7⟩ := c_push1 (n := n) (v := g i) hC hB hT hz (by omega)
    obtain ⟨c', b', k1, k2, k3, k4, k5, k6, k7⟩ := ih j (i + 1) c1 b1 (by omega) (by omega) p2 (hfr.tr p4) (by omega)
    obtain ⟨q1, q2⟩ := hg i (by omega)
    have n7 : 7 ∉ [9 + T] := by simp; omega
    refine ⟨c', b', ?_, k2, ble.tr k3 p3, k4, k5, fun q hq => ?_, fun q x y => ?_⟩
    · rw [u_X1_pushCaptured_L3, cd_frI hfr.1 (by simp) (by decide), h299, if_neg (fun z => absurd ((nI_leI (by omega) (by omega)).mp z) (by omega)), hslot c b hB hfr.1, bs_some]
      dsimp only
      rw [nI_add, c_get (hB.1 7 (by omega)) (by omega), if_pos (by rw [rsz_e (cd_frz hfr.1 n7)]; exact q1), bs_some]
      dsimp only
      rw [cd_frF hfr.1 n7, q2, p1, bs_some]
      refine c_ck ?_ k3.1 k3.2
      dsimp only
      rw [nI_1]
      exact k1
    · rw [k6 q (by omega), p6 q hq]
    · by_cases z : q = i
      · rw [z, k6 _ (by omega), p7]
      · exact k7 q (by omega) y
theorem c_argL {n T u N S B : Nat} {C : Nat × Nat} {c0 : cd_S} {g : Nat → Int64} (hC : BC C) (hT : T < 8) (hN : N < 100) (hS : S + N < 32768) (hB0 : N ≤ B) (hBS : B ≤ S) (hg : ∀ i, i < N → cRF c0 (9 + T) (B - N + i) = g i) : ∀ (e j i : Nat) (c : cd_S) (b : cd_B), i + e = N → e < j → Bd C c b → OPC [] T c0 c → rsz c (9 + T) = S + i → (∀ q, q < S → cRF c (9 + T) q = cRF c0 (9 + T) q) → ∃ c' b', f_X1_apply_L69 n T (nI N) u (nI B) j c b (nI i) = some (c', b', nI N) ∧ Bd C c' b' ∧ ble b' b ∧ OPC [] T c0 c' ∧ rsz c' (9 + T) = S + N ∧ (∀ q, q < S + i → cRF c' (9 + T) q = cRF c (9 + T) q) ∧ ∀ q, i ≤ q → q < N → cRF c' (9 + T) (S + q) = g q := by
  intro e
  induction e with
  | zero =>
    intro j i c b hi hj hB hfr hz hlo
    obtain ⟨j, rfl⟩ : ∃ q, j = q + 1 := ⟨j - 1, by omega⟩
    have hiN : i = N := by omega
    subst hiN
    refine ⟨c, b, ?_, hB, ble.refl b, hfr, hz, fun _ _ => rfl, fun q x y => by omega⟩
    rw [u_X1_apply_L69, if_pos ((nI_leI (by omega) (by omega)).mpr (Nat.le_refl _))]
  | succ e ih =>
    intro j i c b hi hj hB hfr hz hlo
    obtain ⟨j, rfl⟩ : ∃ q, j = q + 1 := ⟨j - 1, by omega⟩
    obtain ⟨c1, b1, p1, p2, p3, p4, p5, p6, p7⟩ := c_push1 (n := n) (v := g i) hC hB hT hz (by omega)
    obtain ⟨c', b', k1, k2, k3, k4, k5, k6, k7⟩ := ih j (i + 1) c1 b1 (by omega) (by omega) p2 (hfr.tr p4) (by omega) (fun q hq => by rw [p6 q (by omega)]; exact hlo q hq)
    refine ⟨c', b', ?_, k2, ble.tr k3 p3, k4, k5, fun q hq => ?_, fun q x y => ?_⟩
    · rw [u_X1_apply_L69, if_neg (fun z => absurd ((nI_leI (by omega) (by omega)).mp z) (by omega)), nI_sub (by omega), nI_add, Nat.one_mul, c_get (hB.1 (9 + T) (by omega)) (by omega), if_pos (by omega), bs_some]
      dsimp only
      rw [hlo _ (by omega), hg i (by omega), p1, bs_some]
      refine c_ck ?_ k3.1 k3.2
      dsimp only
      rw [nI_1]
      exact k1
    · rw [k6 q (by omega), p6 q hq]
    · by_cases z : q = i
      · rw [z, k6 _ (by omega), p7]
      · exact k7 q (by omega) y
theorem CWk.app {c : cd_S} {q o : Nat} {W : List Int64} : ∀ {Y : List Int64}, CWk c q o W → (∀ i (h : i < Y.length), cRF c q (o + W.length + i) = Y.reverse[i]'(by rw [List.length_reverse]; exact h)) → CWk c q o (Y ++ W)
  | [], h, _ => h
  | y :: Y, h, hy => by
      refine ⟨?_, CWk.app h (fun i hi => ?_)⟩
      · have := hy Y.length (by simp)
        have e1 : o + (Y.append W).length = o + W.length + Y.length := by
          show o + (Y ++ W).length = _
          rw [List.length_append]; omega
        rw [e1, this]
        simp
      · have := hy i (by rw [List.length_cons]; omega)
        rw [this]
        simp only [List.reverse_cons]
        rw [List.getElem_append_left (by rw [List.length_reverse]; exact hi)]
/-- values were pushed on top of a strand's top frame -/
theorem TC.ext {t : Nat} {c c' : cd_S} {f : FR} {r : List FR} {Y : List Int64} (h : TC c t (f :: r)) (ho : OPC [] t c c') (hz : rsz c' (9 + t) = sz (f :: r) + Y.length) (hlo : ∀ q, q < sz (f :: r) → cRF c' (9 + t) q = cRF c (9 + t) q) (hy : ∀ i (h : i < Y.length), cRF c' (9 + t) (sz (f :: r) + i) = Y.reverse[i]'(by rw [List.length_reverse]; exact h)) : TC c' t (f.sW (Y ++ f.W) :: r) := by
  obtain ⟨h1, h2, h3, ⟨a1, a2, a3, a4, a5, a6⟩, l1, w1, g1⟩ := h
  have hzz : sz (f :: r) = sz r + f.d + f.L.length + f.W.length := rfl
  have aa : ∀ g k, 224 ≤ g → g ≤ 229 → cAr c' g t k = cAr c g t k := fun g k x y => cd_frA ho.1 (by simp) (by omega) t k
  refine ⟨by rw [cd_frI ho.1 (by simp) (by decide)]; exact h1, h2, ?_, ⟨by rw [aa 224 _ (by decide) (by decide)]; exact a1, by rw [aa 225 _ (by decide) (by decide)]; exact a2, by rw [aa 226 _ (by decide) (by decide)]; exact a3, by rw [aa 227 _ (by decide) (by decide)]; exact a4, by rw [aa 228 _ (by decide) (by decide)]; exact a5, by rw [aa 229 _ (by decide) (by decide)]; exact a6⟩, fun i hi => ?_, ?_, ?_⟩
  · rw [hz]
    show sz (f :: r) + Y.length = sz r + f.d + f.L.length + (Y ++ f.W).length
    rw [List.length_append]; omega
  · have hi' : i < f.L.length := hi
    show cRF c' (9 + t) (sz r + f.d + i) = f.L[i]
    rw [hlo _ (by omega)]; exact l1 i hi'
  · have w2 : CWk c' (9 + t) (sz r + f.d + f.L.length) f.W := w1.of (fun j _ hj => hlo j (by omega))
    exact w2.app (fun i hi => hy i hi)
  · exact g1.of (fun g k x y _ => aa g k x y) (fun j hj => hlo j (by omega))
/-- the model: captured values become locals -/
theorem m_takeL {n t u L N fi a : Nat} {m0 : md_S} {rw : Bool} {cb : Nat → Nat} {g : FR} {R : List FR} {xs : List Int64} (ht : t < 8) (hu : u < 60) (hfi : fi < 2000) (hN : N ≤ xs.length) (hNL : xs.length ≤ L) (hL : L < 1000) (ha : a + N < 66000) (h96 : mA m0 96 fi = nI u) (h44 : mA m0 44 u = nI N) (h97 : mA m0 97 fi = nI a) (hcell : ∀ i (hi : i < N), mA m0 99 (a + i) = vS (xs[i]'(by omega)) ∧ mA m0 100 (a + i) = mv rw (xs[i]'(by omega))) : ∀ (e j i : Nat) (m : md_S), i + e = N → e < j → OPM [118, 119] t m0 m → TM m t rw cb (g.sL (xs.take i ++ nones (L - i)) :: R) → ∃ m', f_X12_takeCaptured_L17 n (nI t) (nI fi) (nI (60 * t + R.length)) j m (nI i) = some (m', nI N) ∧ OPM [118, 119] t m0 m' ∧ TM m' t rw cb (g.sL (xs.take N ++ nones (L - N)) :: R) := by
  intro e
  induction e with
  | zero =>
    intro j i m hi hj ho hM
    obtain ⟨j, rfl⟩ : ∃ q, j = q + 1 := ⟨j - 1, by omega⟩
    have hiN : i = N := by omega
    subst hiN
    refine ⟨m, ?_, ho, hM⟩
    rw [u_X12_takeCaptured_L17, m_ld96 hfi, bs_some, md_frA ho.1 (by decide), h96, m_ld44 hu, bs_some, md_frA ho.1 (by decide), h44, if_pos ((nI_leI (by omega) (by omega)).mpr (Nat.le_refl _))]
  | succ e ih =>
    intro j i m hi hj ho hM
    obtain ⟨j, rfl⟩ : ∃ q, j = q + 1 := ⟨j - 1, by omega⟩
    obtain ⟨m1, x, y, z⟩ := loc1 (n := n) (xs := xs) (i := i) ht hM (by omega) (by omega)
    obtain ⟨m', k1, k2, k3⟩ := ih j (i + 1) m1 (by omega) (by omega) (ho.tr z) y
    refine ⟨m', ?_, k2, k3⟩
    obtain ⟨e1, e2⟩ := hcell i (by omega)
    rw [u_X12_takeCaptured_L17, m_ld96 hfi, bs_some, md_frA ho.1 (by decide), h96, m_ld44 hu, bs_some, md_frA ho.1 (by decide), h44, if_neg (fun z => absurd ((nI_leI (by omega) (by omega)).mp z) (by omega)), m_ld97 hfi, bs_some, md_frA ho.1 (by decide), h97, nI_add, m_ld99 (by omega), bs_some, bs_some, nI_add, m_ld100 (by omega), bs_some, md_frA ho.1 (by decide), md_frA ho.1 (by decide), e1, e2, x, bs_some]
    dsimp only
    rw [nI_1]
    exact k1
theorem m_argL {n t u L N k y : Nat} {m0 : md_S} {rw : Bool} {cb : Nat → Nat} {g : FR} {R : List FR} {xs : List Int64} (ht : t < 8) (hu : u < 60) (hN : xs.length = N + k) (hNL : xs.length ≤ L) (hL : L < 1000) (hy : y + 1 + k < 72000) (h44 : mA m0 44 u = nI N) (hcell : ∀ i (hi : i < k), mA m0 121 (y + 1 + i) = vS (xs[N + i]'(by omega)) ∧ mA m0 122 (y + 1 + i) = mv rw (xs[N + i]'(by omega))) : ∀ (e j i : Nat) (m : md_S), i + e = k → e < j → OPM [118, 119] t m0 m → mI m 127 = nI t → TM m t rw cb (g.sL (xs.take (N + i) ++ nones (L - (N + i))) :: R) → ∃ m', f_X12_applies_L112 n (nI k) (nI y) (nI u) j m (nI i) = some (m', nI k) ∧ OPM [118, 119] t m0 m' ∧ TM m' t rw cb (g.sL (xs ++ nones (L - xs.length)) :: R) := by
  intro e
  induction e with
  | zero =>
    intro j i m hi hj ho hme hM
    obtain ⟨j, rfl⟩ : ∃ q, j = q + 1 := ⟨j - 1, by omega⟩
    have hiN : i = k := by omega
    subst hiN
    refine ⟨m, ?_, ho, ?_⟩
    · rw [u_X12_applies_L112, if_pos ((nI_leI (by omega) (by omega)).mpr (Nat.le_refl _))]
    · rw [← hN, List.take_length] at hM; exact hM
  | succ e ih =>
    intro j i m hi hj ho hme hM
    obtain ⟨j, rfl⟩ : ∃ q, j = q + 1 := ⟨j - 1, by omega⟩
    obtain ⟨m1, x, y', z⟩ := loc1 (n := n) (xs := xs) (i := N + i) ht hM (by omega) (by omega)
    obtain ⟨m', k1, k2, k3⟩ := ih j (i + 1) m1 (by omega) (by omega) (ho.tr z) (by rw [md_frI z.1 (by decide)]; exact hme) y'
    refine ⟨m', ?_, k2, k3⟩
    obtain ⟨e1, e2⟩ := hcell i (by omega)
    rw [u_X12_applies_L112, if_neg (fun z => absurd ((nI_leI (by omega) (by omega)).mp z) (by omega)), hM.1.fa hme ht, bs_some]
    dsimp only
    rw [m_ld44 hu, bs_some, md_frA ho.1 (by decide), h44, nI_1, nI_add, nI_add, m_ld121 (by omega), bs_some, m_ld122 (by omega), bs_some, md_frA ho.1 (by decide), md_frA ho.1 (by decide), e1, e2, hme, x, bs_some]
    dsimp only
    rw [nI_1]
    exact k1
