/-! what a strand does with its frames -/
theorem TC.push {n t : Nat} {C : Nat × Nat} {c : cd_S} {b : cd_B} {f : FR} {r : List FR} {v : Int64} (hC : BC C) (hB : Bd C c b) (h : TC c t (f :: r)) (ht : t < 8) (hz : sz (f :: r) < 32768) : ∃ c' b', f_X1_push n c b t v = some (0, c', b') ∧ Bd C c' b' ∧ ble b' b ∧ TC c' t (f.sW (v :: f.W) :: r) ∧ OPC [] t c c' := by
  obtain ⟨h1, h2, h3, a1, a2, a3, a4⟩ := h
  have hcap : rcap (9 + t) = 32768 := by
    unfold rcap rc0 rck
    simp only [show ¬ 9 + t = 0 by omega, show ¬ 9 + t = 1 by omega, show ¬ 9 + t = 2 by omega, show ¬ 9 + t = 3 by omega, show ¬ 9 + t = 4 by omega, show ¬ 9 + t = 5 by omega, show ¬ 9 + t = 6 by omega, show ¬ 9 + t = 7 by omega, show ¬ 9 + t = 8 by omega, show 9 + t < 17 by omega, if_true, if_false]
  obtain ⟨b', d1, d2, d3, d4⟩ := c_add (n := n) (v := v) hC hB (r := 9 + t) (by omega) (by rw [hcap, h3]; exact hz)
  have hR := hB.1 (9 + t) (by omega)
  have hF : ∀ j, j < sz (f :: r) → cRF (rAdd c (9 + t) v) (9 + t) j = cRF c (9 + t) j := fun j hj => rAdd_Fl hR.2.1 (by omega)
  have hzz : sz (f :: r) = sz r + f.d + f.L.length + f.W.length := rfl
  refine ⟨rAdd c (9 + t) v, b', ?_, d2, ⟨d3, d4⟩, ⟨?_, h2, ?_, ?_, fun i h => ?_, ⟨?_, ?_⟩, ?_⟩, opc_add⟩
  · unfold f_X1_push
    refine c_ck ?_ d3 d4
    rw [Nat.one_mul, d1, bs_some]
    exact c_ck rfl (Nat.le_refl _) (Nat.le_refl _)
  · rw [rAdd_Io (by decide)]; exact h1
  · rw [rAdd_sz (by omega), h3]; rfl
  · unfold CF1
    simp only [rAdd_A]
    exact a1
  · have hi : i < f.L.length := h
    show cRF (rAdd c (9 + t) v) (9 + t) (sz r + f.d + i) = f.L[i]
    rw [hF _ (by omega)]; exact a2 i hi
  · have e : sz r + f.d + f.L.length + f.W.length = rsz c (9 + t) := by rw [h3]; rfl
    show cRF (rAdd c (9 + t) v) (9 + t) (sz r + f.d + f.L.length + f.W.length) = v
    rw [e, rAdd_Fe]
  · exact a3.of (fun j _ hj => hF j (by omega))
  · exact a4.of (fun g k _ _ _ => rAdd_A _ _ _ _ _ _) (fun j hj => hF j (by omega))
/-- the stack is cut to the working values V, which are the last of W -/
theorem TC.cutz {t k : Nat} {c : cd_S} {f : FR} {r : List FR} {X V : List Int64} (h : TC c t (f :: r)) (hW : f.W = X ++ V) (hk : k = sz (f.sW V :: r)) (hlt : rsz c (9 + t) < 1000000) : TC (cSI c 193 (9 + t) (nI k)) t (f.sW V :: r) := by
  obtain ⟨h1, h2, h3, a1, a2, a3, a4⟩ := h
  have hzz : sz (f :: r) = sz r + f.d + f.L.length + f.W.length := rfl
  have hz2 : sz (f.sW V :: r) = sz r + f.d + f.L.length + V.length := rfl
  have hle : V.length ≤ f.W.length := by rw [hW, List.length_append]; omega
  refine ⟨by rw [cI_SIo (by decide)]; exact h1, h2, by rw [rsz_SIe (by omega), hk], a1, a2, ?_, a4.of (fun _ _ _ _ _ => rfl) (fun _ _ => rfl)⟩
  have : ∀ {X V : List Int64}, CWk c (9 + t) (sz r + f.d + f.L.length) (X ++ V) → CWk c (9 + t) (sz r + f.d + f.L.length) V := by
    intro X V
    induction X with
    | nil => exact fun q => q
    | cons x X ih => exact fun q => ih q.2
  rw [hW] at a3
  exact (this a3).of (fun _ _ _ => rfl)
theorem TC.pop {n t : Nat} {C : Nat × Nat} {c : cd_S} {b : cd_B} {f : FR} {r : List FR} {v : Int64} {V : List Int64} (hB : Bd C c b) (h : TC c t (f :: r)) (ht : t < 8) (hW : f.W = v :: V) : ∃ c', f_X6_pop n c (9 + 1 * t) = some (v, c') ∧ Bd C c' b ∧ TC c' t (f.sW V :: r) ∧ OPC [] t c c' := by
  have hR := hB.1 (9 + t) (by omega)
  have hl := hR.szlt
  have h3 := h.2.2.1
  have hzz : sz (f :: r) = sz r + f.d + f.L.length + f.W.length := rfl
  have hz2 : sz (f.sW V :: r) = sz r + f.d + f.L.length + V.length := rfl
  have hlen : f.W.length = V.length + 1 := by rw [hW]; rfl
  have hc := h.2.2.2.2.2.1
  rw [hW] at hc
  refine ⟨cSI c 193 (9 + t) (nI (sz (f.sW V :: r))), ?_, hB.shr (by omega) (by omega), h.cutz (X := [v]) hW rfl hl, opc_z⟩
  unfold f_X6_pop
  rw [Nat.one_mul, hR.1, h3, if_pos (show (0 : Int32) < nI (sz (f :: r)) from (nI_ltI (a := 0) (by decide) (by omega)).mpr (by omega)), bs_some, show (1 : Int32) = nI 1 from rfl, nI_sub (by omega), cI_SIe, show sz (f :: r) - 1 = sz (f.sW V :: r) by omega]
  rw [c_ldF (show sz (f.sW V :: r) < cRC (cSI c 193 (9 + t) (nI (sz (f.sW V :: r)))) (9 + t) from by have := hR.2.1; show _ < cRC c (9 + t); omega) hR.lt, bs_some]
  rw [show cRF (cSI c 193 (9 + t) (nI (sz (f.sW V :: r)))) (9 + t) (sz (f.sW V :: r)) = v from hc.1]
theorem TC.framed {n t : Nat} {c : cd_S} {f : FR} {r : List FR} (h : TC c t (f :: r)) : f_X7_framed n c t = some (1, c) := by
  have h2 := h.2.1
  rw [List.length_cons] at h2
  unfold f_X7_framed
  rw [h.1, List.length_cons, if_neg (show ¬ nI (r.length + 1) ≤ 0 from fun z => absurd ((nI_leI (b := 0) (by omega) (by decide)).mp z) (by omega)), if_neg (show ¬ (60 : Int32) < nI (r.length + 1) from fun z => absurd ((nI_ltI (a := 60) (by decide) (by omega)).mp z) (by omega))]
theorem TC.top {t : Nat} {c : cd_S} {f : FR} {r : List FR} (h : TC c t (f :: r)) : cI c 232 t - 1 = nI r.length ∧ r.length < 60 := by
  have h2 := h.2.1
  rw [List.length_cons] at h2
  exact ⟨by rw [h.1, List.length_cons, show (1 : Int32) = nI 1 from rfl, nI_sub (by omega), Nat.add_sub_cancel], by omega⟩
theorem TC.unit {n t : Nat} {c : cd_S} {f : FR} {r : List FR} (h : TC c t (f :: r)) : f_X7_unitNow n c t = some (nI f.u, c) := by
  unfold f_X7_unitNow
  rw [h.framed, bs_some]
  dsimp only
  rw [if_neg ne10, h.top.1, c_ld224 h.top.2, bs_some, h.2.2.2.1.1]
theorem TC.place {n t : Nat} {c : cd_S} {f : FR} {r : List FR} (h : TC c t (f :: r)) : f_X7_placeNow n c t = some (nI f.p, c) := by
  unfold f_X7_placeNow
  rw [h.framed, bs_some]
  dsimp only
  rw [if_neg ne10, h.top.1, c_ld225 h.top.2, bs_some, h.2.2.2.1.2.1]
theorem TC.base {n t : Nat} {c : cd_S} {f : FR} {r : List FR} (h : TC c t (f :: r)) : f_X7_baseNow n c t = some (nI (sz r + f.d), c) := by
  unfold f_X7_baseNow
  rw [h.framed, bs_some]
  dsimp only
  rw [if_neg ne10, h.top.1, c_ld226 h.top.2, bs_some, h.2.2.2.1.2.2.1]
theorem TC.node {n t : Nat} {c : cd_S} {f : FR} {r : List FR} (h : TC c t (f :: r)) : f_X7_nodeNow n c t = some (f.nd, c) := by
  unfold f_X7_nodeNow
  rw [h.framed, bs_some]
  dsimp only
  rw [if_neg ne10, h.top.1, c_ld228 h.top.2, bs_some, h.2.2.2.1.2.2.2.2.1]
theorem TC.cont {n t : Nat} {c : cd_S} {f : FR} {r : List FR} (h : TC c t (f :: r)) : f_X7_contextNow n c t = some (f.cx, c) := by
  unfold f_X7_contextNow
  rw [h.framed, bs_some]
  dsimp only
  rw [if_neg ne10, h.top.1, c_ld229 h.top.2, bs_some, h.2.2.2.1.2.2.2.2.2]
theorem TC.node0 {n t : Nat} {c : cd_S} (h : TC c t []) : f_X7_nodeNow n c t = some (-1, c) ∧ f_X7_contextNow n c t = some (-1, c) := by
  have hf : f_X7_framed n c t = some (0, c) := by
    unfold f_X7_framed
    rw [h.1, if_pos (by decide)]
  unfold f_X7_nodeNow f_X7_contextNow
  rw [hf, bs_some, bs_some]
  exact ⟨if_pos rfl, if_pos rfl⟩
theorem TC.go {n t p : Nat} {C : Nat × Nat} {c : cd_S} {b : cd_B} {f : FR} {r : List FR} (hB : Bd C c b) (h : TC c t (f :: r)) : ∃ c', f_X7_goTo n c t (nI p) = some (0, c') ∧ Bd C c' b ∧ TC c' t (f.sp p :: r) ∧ OPC [225] t c c' := by
  have hk := h.top
  refine ⟨cSA c 225 t r.length (nI p), ?_, hB.of (fun _ _ => rfl) (fun _ _ => rfl), ?_, opc_A (by decide)⟩
  · unfold f_X7_goTo
    rw [h.framed, bs_some]
    dsimp only
    rw [if_neg ne10, hk.1, c_st225 hk.2, bs_some]
  · obtain ⟨h1, h2, h3, ⟨a1, a2, a3, a4, a5, a6⟩, l1, w1, g1⟩ := h
    refine ⟨h1, h2, h3, ⟨?_, cA_SAe, ?_, ?_, ?_, ?_⟩, l1, w1.of (fun _ _ _ => rfl), g1.of (fun g k x y z => ?_) (fun _ _ => rfl)⟩
    · rw [cA_SAo (by decide)]; exact a1
    · rw [cA_SAo (by decide)]; exact a3
    · rw [cA_SAo (by decide)]; exact a4
    · rw [cA_SAo (by decide)]; exact a5
    · rw [cA_SAo (by decide)]; exact a6
    · rw [cA_SA]
      split
      · rw [if_neg (by omega)]
      · rfl
theorem TC.get {n t i : Nat} {C : Nat × Nat} {c : cd_S} {b : cd_B} {f : FR} {r : List FR} (hB : Bd C c b) (h : TC c t (f :: r)) (ht : t < 8) (hi : i < f.L.length) : f_X6_get n c (9 + 1 * t) (nI (sz r + f.d) + nI i) = some (f.L[i], c) := by
  have hR := hB.1 (9 + t) (by omega)
  have hl := hR.szlt
  have h3 := h.2.2.1
  have hzz : sz (f :: r) = sz r + f.d + f.L.length + f.W.length := rfl
  rw [Nat.one_mul, nI_add, c_get hR (by omega), if_pos (by omega), h.2.2.2.2.1 i hi]
theorem TC.setl {n t i : Nat} {C : Nat × Nat} {c : cd_S} {b : cd_B} {f : FR} {r : List FR} {v : Int64} (hB : Bd C c b) (h : TC c t (f :: r)) (ht : t < 8) (hi : i < f.L.length) : ∃ c', f_X6_set n c (9 + 1 * t) (nI (sz r + f.d) + nI i) v = some (0, c') ∧ Bd C c' b ∧ TC c' t (f.sL (f.L.set i v) :: r) ∧ OPC [] t c c' := by
  have hR := hB.1 (9 + t) (by omega)
  have hl := hR.szlt
  obtain ⟨h1, h2, h3, a1, l1, w1, g1⟩ := h
  have hzz : sz (f :: r) = sz r + f.d + f.L.length + f.W.length := rfl
  refine ⟨cSF c (9 + t) (sz r + f.d + i) v, ?_, hB.SF _ _ _, ⟨h1, h2, ?_, a1, fun j hj => ?_, ?_, ?_⟩, opc_F⟩
  · rw [Nat.one_mul, nI_add, c_set hR (by omega)]
  · show rsz c (9 + t) = sz r + f.d + (f.L.set i v).length + f.W.length
    rw [List.length_set, h3]; rfl
  · have hj' : j < (f.L.set i v).length := hj
    show cRF (cSF c (9 + t) (sz r + f.d + i) v) (9 + t) (sz r + f.d + j) = (f.L.set i v)[j]
    rw [List.length_set] at hj'
    rw [cF_SF, if_pos rfl, List.getElem_set]
    by_cases q : i = j
    · rw [if_pos (by omega), if_pos q]
    · rw [if_neg (by omega), if_neg q]; exact l1 j hj'
  · show CWk _ (9 + t) (sz r + f.d + (f.L.set i v).length) f.W
    rw [List.length_set]
    exact w1.of (fun j a _ => by rw [cF_SF, if_pos rfl, if_neg (by omega)])
  · exact g1.of (fun _ _ _ _ _ => rfl) (fun j a => by rw [cF_SF, if_pos rfl, if_neg (by omega)])
theorem CWk.nth {c : cd_S} {q o : Nat} : ∀ {W : List Int64} {k : Nat}, CWk c q o W → ∀ (h : k < W.length), cRF c q (o + (W.length - 1 - k)) = W[k]
  | v :: V, 0, h, _ => h.1
  | v :: V, k + 1, h, hk => by
      have hk' : k < V.length := by rw [List.length_cons] at hk; omega
      have := CWk.nth h.2 hk'
      rw [List.getElem_cons_succ, List.length_cons, show V.length + 1 - 1 - (k + 1) = V.length - 1 - k by omega]
      exact this
theorem TC.peek {n t k : Nat} {C : Nat × Nat} {c : cd_S} {b : cd_B} {f : FR} {r : List FR} (hB : Bd C c b) (h : TC c t (f :: r)) (ht : t < 8) (hk : k < f.W.length) : f_X7_peek n c t (nI k) = some (f.W[k], c) := by
  have hR := hB.1 (9 + t) (by omega)
  have hl := hR.szlt
  have h3 := h.2.2.1
  have hzz : sz (f :: r) = sz r + f.d + f.L.length + f.W.length := rfl
  unfold f_X7_peek
  rw [Nat.one_mul, hR.1, h3, show (1 : Int32) = nI 1 from rfl, nI_sub (by omega), nI_sub (by omega), c_get hR (by omega), if_pos (by omega), bs_some]
  have := h.2.2.2.2.2.1.nth hk
  rw [show sz (f :: r) - 1 - k = sz r + f.d + f.L.length + (f.W.length - 1 - k) by omega, this]
