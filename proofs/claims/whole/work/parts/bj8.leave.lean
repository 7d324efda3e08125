/-! frames are left, down to a try -/
theorem TC.leave {n t : Nat} {C : Nat × Nat} {c : cd_S} {b : cd_B} {f : FR} {r : List FR} (hB : Bd C c b) (h : TC c t (f :: r)) (ht : t < 8) : ∃ c', f_X7_leave n c t = some (0, c') ∧ Bd C c' b ∧ TC c' t r ∧ OPC [232] t c c' ∧ cI c' 232 t = nI r.length := by
  have hR := hB.1 (9 + t) (by omega)
  have hl := hR.szlt
  obtain ⟨h1, h2, h3, ⟨a1, a2, a3, a4, a5, a6⟩, l1, w1, g1⟩ := h
  rw [List.length_cons] at h1 h2
  have hzz : sz (f :: r) = sz r + f.d + f.L.length + f.W.length := rfl
  have hcut : ∀ c0 : cd_S, cI c0 193 (9 + t) = nI (sz (f :: r)) → ∃ c', f_X6_cut n c0 (9 + t) (nI (sz r)) = some (0, c') ∧ c' = cSI c0 193 (9 + t) (nI (sz r)) := fun c0 e => by
    unfold f_X6_cut
    rw [if_neg (show ¬ nI (sz r) < 0 from nI_nn (by omega)), e]
    by_cases q : sz (f :: r) ≤ sz r
    · rw [if_pos ((nI_leI (by omega) (by omega)).mpr q)]
      refine ⟨c0, rfl, ?_⟩
      rw [cSI_self]
      rw [e]; congr 1; omega
    · rw [if_neg (fun z => q ((nI_leI (by omega) (by omega)).mp z)), bs_some]
      exact ⟨_, rfl, rfl⟩
  obtain ⟨c', k1, k2⟩ := hcut (cSI c 232 t (nI r.length)) (by rw [cI_SIo (by decide), hR.1, h3])
  have hB1 : Bd C (cSI c 232 t (nI r.length)) b := hB.SI (by decide) _ _
  have hz1 : rsz (cSI c 232 t (nI r.length)) (9 + t) = sz (f :: r) := by rw [rsz_e (cI_SIo (by decide))]; exact h3
  refine ⟨c', ?_, ?_, ⟨?_, by omega, ?_, ?_⟩, ?_, ?_⟩
  · unfold f_X7_leave
    rw [h1, if_neg (show ¬ nI (r.length + 1) ≤ 0 from fun z => absurd ((nI_leI (b := 0) (by omega) (by decide)).mp z) (by omega)), if_neg (show ¬ (60 : Int32) < nI (r.length + 1) from fun z => absurd ((nI_ltI (a := 60) (by decide) (by omega)).mp z) (by omega)), show (1 : Int32) = nI 1 from rfl, nI_sub (by omega), Nat.add_sub_cancel, bs_some, cI_SIe, c_ld227 (by omega), bs_some, Nat.one_mul, show cAr (cSI c 232 t (nI r.length)) 227 t r.length = cAr c 227 t r.length from rfl, a4, k1, bs_some]
  · rw [k2]; exact hB1.shr (by omega) (by omega)
  · rw [k2, cI_SIo (by decide), cI_SIe]
  · rw [k2, rsz_SIe (by omega)]
  · rw [k2]; exact g1.of (fun _ _ _ _ _ => rfl) (fun _ _ => rfl)
  · rw [k2]; exact (opc_I (by decide)).tr (opc_z.mo (by simp))
  · rw [k2, cI_SIo (by decide), cI_SIe]
/-- scanning down for a mark -/
theorem drop_loop {n t k : Nat} {c : cd_S} {l1 : Int32} (hR : RowOk c (9 + t)) (hl1 : l1 = nI k) (hk : k < 1000000) : ∀ (e j i : Nat), e < j → k + e ≤ rsz c (9 + t) → i = k + e → (∀ x, k ≤ x → x < k + e → vS (cRF c (9 + t) x) ≠ 5) → f_X7_dropToTry_L15 n t l1 j c (nI i - 1) = some (Sum.inr (c, nI k - 1)) := by
  intro e
  induction e with
  | zero =>
    intro j i hj h2 h3 h4
    obtain ⟨j, rfl⟩ : ∃ j', j = j' + 1 := ⟨j - 1, by omega⟩
    rw [u_X7_dropToTry_L15, h3, Nat.add_zero, hl1, if_pos]
    apply Int32.lt_iff_toInt_lt.mpr
    by_cases q : k = 0
    · rw [q]; decide
    · rw [show (1 : Int32) = nI 1 from rfl, nI_sub (by omega), nI_toInt (by omega), nI_toInt (by omega)]; omega
  | succ e ih =>
    intro j i hj h2 h3 h4
    have hs := hR.szlt
    obtain ⟨j, rfl⟩ : ∃ j', j = j' + 1 := ⟨j - 1, by omega⟩
    rw [u_X7_dropToTry_L15, h3, show (1 : Int32) = nI 1 from rfl, nI_sub (by omega), hl1, show k + (e + 1) - 1 = k + e by omega, if_neg (fun z => absurd ((nI_ltI (by omega) (by omega)).mp z) (by omega)), Nat.one_mul, c_get hR (by omega), if_pos (by omega), bs_some]
    dsimp only
    rw [c_vS, bs_some]
    dsimp only
    rw [if_neg (h4 (k + e) (by omega) (by omega))]
    have := ih j (k + e) (by omega) (by omega) rfl (fun x a b => h4 x a (by omega))
    rw [hl1] at this
    rw [show nI (k + e) + -nI 1 = nI (k + e) - 1 from (Int32.sub_eq_add_neg ..).symm]
    exact this
theorem drop_loop1 {n t k q : Nat} {c : cd_S} {l1 : Int32} (hR : RowOk c (9 + t)) (hl1 : l1 = nI k) (hk : k ≤ q) (hq : q < rsz c (9 + t)) (h5 : vS (cRF c (9 + t) q) = 5) : ∀ (e j i : Nat), e < j → q + 1 + e ≤ rsz c (9 + t) → i = q + 1 + e → (∀ x, q < x → x < q + 1 + e → vS (cRF c (9 + t) x) ≠ 5) → f_X7_dropToTry_L15 n t l1 j c (nI i - 1) = some (Sum.inl ((cRF c (9 + t) q).toInt32, cSI c 193 (9 + t) (nI q))) := by
  intro e
  have hs := hR.szlt
  induction e with
  | zero =>
    intro j i hj h2 h3 h4
    obtain ⟨j, rfl⟩ : ∃ j', j = j' + 1 := ⟨j - 1, by omega⟩
    rw [u_X7_dropToTry_L15, h3, show (1 : Int32) = nI 1 from rfl, nI_sub (by omega), hl1, show q + 1 + 0 - 1 = q by omega, if_neg (fun z => absurd ((nI_ltI (by omega) (by omega)).mp z) (by omega)), Nat.one_mul, c_get hR (by omega), if_pos (by omega), bs_some]
    dsimp only
    rw [c_vS, bs_some]
    dsimp only
    rw [if_pos h5, c_at hR (by omega), if_pos hq, bs_some]
    dsimp only
    unfold f_X6_cut
    rw [if_neg (show ¬ nI q < 0 from nI_nn (by omega)), hR.1, if_neg (fun z => absurd ((nI_leI (by omega) (by omega)).mp z) (by omega)), bs_some, bs_some]
  | succ e ih =>
    intro j i hj h2 h3 h4
    obtain ⟨j, rfl⟩ : ∃ j', j = j' + 1 := ⟨j - 1, by omega⟩
    rw [u_X7_dropToTry_L15, h3, show (1 : Int32) = nI 1 from rfl, nI_sub (by omega), hl1, show q + 1 + (e + 1) - 1 = q + 1 + e by omega, if_neg (fun z => absurd ((nI_ltI (by omega) (by omega)).mp z) (by omega)), Nat.one_mul, c_get hR (by omega), if_pos (by omega), bs_some]
    dsimp only
    rw [c_vS, bs_some]
    dsimp only
    rw [if_neg (h4 (q + 1 + e) (by omega) (by omega))]
    have := ih j (q + 1 + e) (by omega) (by omega) rfl (fun x a b => h4 x a (by omega))
    rw [hl1] at this
    rw [show nI (q + 1 + e) + -nI 1 = nI (q + 1 + e) - 1 from (Int32.sub_eq_add_neg ..).symm]
    exact this
theorem TC.drop0 {n t : Nat} {C : Nat × Nat} {c : cd_S} {b : cd_B} {f : FR} {r : List FR} (hn : 40000 ≤ n) (hB : Bd C c b) (h : TC c t (f :: r)) (ht : t < 8) (hz : sz (f :: r) < 33000) (hW : ∀ v, v ∈ f.W → vS v ≠ 5) (hL : ∀ v, v ∈ f.L → vS v ≠ 5) : f_X7_dropToTry n c t = some (-1, c) := by
  have hR := hB.1 (9 + t) (by omega)
  have h3 := h.2.2.1
  have hzz : sz (f :: r) = sz r + f.d + f.L.length + f.W.length := rfl
  unfold f_X7_dropToTry
  rw [h.base, bs_some]
  dsimp only
  rw [Nat.one_mul, hR.1, h3, drop_loop (k := sz r + f.d) hR rfl (by omega) (f.L.length + f.W.length) n (sz (f :: r)) (by omega) (by omega) (by omega) (fun x a bb => ?_), bs_some]
  · rfl
  · by_cases q : x < sz r + f.d + f.L.length
    · have := h.2.2.2.2.1 (x - (sz r + f.d)) (by omega)
      rw [show sz r + f.d + (x - (sz r + f.d)) = x by omega] at this
      rw [this]
      exact hL _ (List.getElem_mem _)
    · obtain ⟨k, ek⟩ : ∃ k, k = f.W.length - 1 - (x - (sz r + f.d + f.L.length)) := ⟨_, rfl⟩
      have := h.2.2.2.2.2.1.nth (k := k) (by omega)
      rw [show sz r + f.d + f.L.length + (f.W.length - 1 - k) = x by omega] at this
      rw [this]
      exact hW _ (List.getElem_mem _)
theorem TC.drop1 {n t : Nat} {C : Nat × Nat} {c : cd_S} {b : cd_B} {f : FR} {r : List FR} {X V : List Int64} {mk : Int64} (hn : 40000 ≤ n) (hB : Bd C c b) (h : TC c t (f :: r)) (ht : t < 8) (hz : sz (f :: r) < 33000) (hW : f.W = X ++ mk :: V) (hX : ∀ v, v ∈ X → vS v ≠ 5) (h5 : vS mk = 5) : ∃ c', f_X7_dropToTry n c t = some (mk.toInt32, c') ∧ Bd C c' b ∧ TC c' t (f.sW V :: r) ∧ OPC [] t c c' := by
  have hR := hB.1 (9 + t) (by omega)
  have h3 := h.2.2.1
  have hzz : sz (f :: r) = sz r + f.d + f.L.length + f.W.length := rfl
  have hz2 : sz (f.sW V :: r) = sz r + f.d + f.L.length + V.length := rfl
  have hlen : f.W.length = X.length + (V.length + 1) := by rw [hW, List.length_append]; rfl
  have hmk : cRF c (9 + t) (sz r + f.d + f.L.length + V.length) = mk := by
    have := h.2.2.2.2.2.1.nth (k := X.length) (by omega)
    rw [show f.W.length - 1 - X.length = V.length by omega] at this
    rw [this]
    simp only [hW]
    rw [List.getElem_append_right (Nat.le_refl _)]
    simp
  refine ⟨cSI c 193 (9 + t) (nI (sz r + f.d + f.L.length + V.length)), ?_, hB.shr (by omega) (by omega), h.cutz (X := X ++ [mk]) (by rw [hW]; simp) hz2.symm hR.szlt, opc_z⟩
  unfold f_X7_dropToTry
  rw [h.base, bs_some]
  dsimp only
  rw [Nat.one_mul, hR.1, h3, drop_loop1 (k := sz r + f.d) (q := sz r + f.d + f.L.length + V.length) hR rfl (by omega) (by omega) (by rw [hmk]; exact h5) X.length n (sz (f :: r)) (by omega) (by omega) (by omega) (fun x a bb => ?_), bs_some, hmk]
  · rfl
  · obtain ⟨k, ek⟩ : ∃ k, k = f.W.length - 1 - (x - (sz r + f.d + f.L.length)) := ⟨_, rfl⟩
    have := h.2.2.2.2.2.1.nth (k := k) (by omega)
    rw [show sz r + f.d + f.L.length + (f.W.length - 1 - k) = x by omega] at this
    rw [this]
    simp only [hW]
    rw [List.getElem_append_left (by omega)]
    exact hX _ (List.getElem_mem _)
theorem mln0 : ∀ {W : List Int64}, mln W = 0 → ∀ v, v ∈ W → vS v ≠ 5
  | [], _, v, hv => absurd hv (by simp)
  | x :: W, h, v, hv => by
      have e : mln (x :: W) = (if vS x = 5 then 1 else 0) + mln W := rfl
      rcases List.mem_cons.mp hv with q | q
      · rw [q]; intro z; rw [if_pos z] at e; omega
      · exact mln0 (by omega) v q
theorem mln_app : ∀ (X V : List Int64), mln (X ++ V) = mln X + mln V ∧ vln (X ++ V) = vln X + vln V
  | [], V => by simp [mln, vln]
  | x :: X, V => by
      obtain ⟨h1, h2⟩ := mln_app X V
      have e1 : mln (x :: (X ++ V)) = (if vS x = 5 then 1 else 0) + mln (X ++ V) := rfl
      have e2 : mln (x :: X) = (if vS x = 5 then 1 else 0) + mln X := rfl
      have e3 : vln (x :: (X ++ V)) = (if vS x = 5 then 0 else 1) + vln (X ++ V) := rfl
      have e4 : vln (x :: X) = (if vS x = 5 then 0 else 1) + vln X := rfl
      rw [List.cons_append]
      omega
theorem mlnX : ∀ {X : List Int64}, (∀ v, v ∈ X → vS v ≠ 5) → mln X = 0
  | [], _ => rfl
  | x :: X, h => by
      have e : mln (x :: X) = (if vS x = 5 then 1 else 0) + mln X := rfl
      rw [if_neg (h x (by simp))] at e
      rw [e, mlnX (fun v hv => h v (by simp [hv]))]
theorem mln1 : ∀ {W : List Int64}, 0 < mln W → ∃ X mk V, W = X ++ mk :: V ∧ (∀ v, v ∈ X → vS v ≠ 5) ∧ vS mk = 5
  | [], h => absurd h (by decide)
  | x :: W, h => by
      by_cases q : vS x = 5
      · exact ⟨[], x, W, rfl, by simp, q⟩
      · have e : mln (x :: W) = (if vS x = 5 then 1 else 0) + mln W := rfl
        rw [if_neg q] at e
        obtain ⟨X, mk, V, a, b, d⟩ := mln1 (W := W) (by omega)
        refine ⟨x :: X, mk, V, by rw [a]; rfl, fun v hv => ?_, d⟩
        rcases List.mem_cons.mp hv with z | z
        · rw [z]; exact q
        · exact b v z
theorem tsz1 : ∀ {F : List FR}, 0 < tsz F → ∃ G f r, F = G ++ f :: r ∧ tsz G = 0 ∧ 0 < mln f.W
  | [], h => absurd h (by decide)
  | g :: F, h => by
      by_cases q : 0 < mln g.W
      · exact ⟨[], g, F, rfl, rfl, q⟩
      · have e : tsz (g :: F) = tsz F + mln g.W := rfl
        obtain ⟨G, f, r, a, b, d⟩ := tsz1 (F := F) (by omega)
        exact ⟨g :: G, f, r, by rw [a]; rfl, by show tsz G + mln g.W = 0; omega, d⟩
theorem tsz_app : ∀ (G F : List FR), tsz (G ++ F) = tsz G + tsz F
  | [], F => by simp [tsz]
  | g :: G, F => by
      have := tsz_app G F
      have e1 : tsz (g :: (G ++ F)) = tsz (G ++ F) + mln g.W := rfl
      have e2 : tsz (g :: G) = tsz G + mln g.W := rfl
      rw [List.cons_append]
      omega
