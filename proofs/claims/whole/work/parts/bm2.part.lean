/-! a part is called -/
theorem set_take {xs : List Int64} {L i : Nat} (hi : i < xs.length) (hL : xs.length ≤ L) : (xs.take i ++ nones (L - i)).set i xs[i] = xs.take (i + 1) ++ nones (L - (i + 1)) := by
  have h1 : (xs.take i).length = i := by rw [List.length_take]; omega
  rw [List.set_append_right _ _ (by omega), h1, Nat.sub_self]
  unfold nones
  rw [show L - i = L - (i + 1) + 1 by omega, List.replicate_succ, List.set_cons_zero, List.take_succ_eq_append_getElem hi, List.append_assoc]
  rfl
theorem loc1 {n t L i : Nat} {m : md_S} {rw : Bool} {cb : Nat → Nat} {g : FR} {R : List FR} {xs : List Int64} (ht : t < 8) (hM : TM m t rw cb (g.sL (xs.take i ++ nones (L - i)) :: R)) (hi : i < xs.length) (hL : xs.length ≤ L) : ∃ m', f_X12_setLocal n m (nI t) (nI (60 * t + R.length)) (nI i) (vS xs[i]) (mv rw xs[i]) = some (0, m') ∧ TM m' t rw cb (g.sL (xs.take (i + 1) ++ nones (L - (i + 1))) :: R) ∧ OPM [118, 119] t m m' := by
  have hlen : (xs.take i ++ nones (L - i)).length = L := by
    rw [List.length_append, List.length_take]; unfold nones; rw [List.length_replicate]; omega
  obtain ⟨m', a, b, d⟩ := hM.setl (n := n) (i := i) (x := xs[i]) (s := vS xs[i]) (v := mv rw xs[i]) ht (by show i < (xs.take i ++ nones (L - i)).length; omega) rfl rfl
  refine ⟨m', a, ?_, d⟩
  have e : (g.sL (xs.take i ++ nones (L - i))).sL ((xs.take i ++ nones (L - i)).set i xs[i]) = g.sL (xs.take (i + 1) ++ nones (L - (i + 1))) := by rw [set_take hi hL]; rfl
  rw [← e]
  exact b
theorem m_partL {n t u L N y : Nat} {m0 : md_S} {rw : Bool} {cb : Nat → Nat} {g : FR} {R : List FR} {xs : List Int64} (ht : t < 8) (hu : u < 60) (hN : xs.length = N) (hNL : N ≤ L) (hL : L < 1000) (h44 : mA m0 44 u = nI N) (hy : y + N < 72000) (hcell : ∀ i (hi : i < xs.length), mA m0 121 (y + i) = vS xs[i] ∧ mA m0 122 (y + i) = mv rw xs[i]) : ∀ (e j i : Nat) (m : md_S), i + e = N → e < j → OPM [118, 119] t m0 m → mI m 127 = nI t → TM m t rw cb (g.sL (xs.take i ++ nones (L - i)) :: R) → ∃ m', f_X12_stepPart_L84 n (nI u) (nI y) j m (nI i) = some (m', nI N) ∧ OPM [118, 119] t m0 m' ∧ TM m' t rw cb (g.sL (xs ++ nones (L - N)) :: R) := by
  intro e
  induction e with
  | zero =>
    intro j i m hi hj ho hme hM
    obtain ⟨j, rfl⟩ : ∃ q, j = q + 1 := ⟨j - 1, by omega⟩
    have hiN : i = N := by omega
    subst hiN
    refine ⟨m, ?_, ho, ?_⟩
    · rw [u_X12_stepPart_L84, m_ld44 hu, bs_some, md_frA ho.1 (by decide), h44, if_pos ((nI_leI (by omega) (by omega)).mpr (Nat.le_refl _))]
    · rw [← hN, List.take_length] at hM
      rw [← hN]; exact hM
  | succ e ih =>
    intro j i m hi hj ho hme hM
    obtain ⟨j, rfl⟩ : ∃ q, j = q + 1 := ⟨j - 1, by omega⟩
    obtain ⟨m1, a, b, d⟩ := loc1 (n := n) (xs := xs) (i := i) ht hM (by omega) (by omega)
    obtain ⟨m', k1, k2, k3⟩ := ih j (i + 1) m1 (by omega) (by omega) (ho.tr d) (by rw [md_frI d.1 (by decide)]; exact hme) b
    refine ⟨m', ?_, k2, k3⟩
    obtain ⟨e1, e2⟩ := hcell i (by omega)
    rw [u_X12_stepPart_L84, m_ld44 hu, bs_some, md_frA ho.1 (by decide), h44, if_neg (fun z => absurd ((nI_leI (by omega) (by omega)).mp z) (by omega)), hM.1.fa hme ht, bs_some]
    dsimp only
    rw [nI_add, m_ld121 (by omega), bs_some, m_ld122 (by omega), bs_some, md_frA ho.1 (by decide), md_frA ho.1 (by decide), e1, e2, hme, a, bs_some]
    dsimp only
    rw [nI_1]
    exact k1
theorem TM.drop {t : Nat} {m : md_S} {rw : Bool} {cb : Nat → Nat} {f : FR} {r : List FR} {X V : List Int64} (h : TM m t rw cb (f :: r)) (hW : f.W = X ++ V) (hX : ∀ v, v ∈ X → vS v ≠ 5) : TM (mSA m 120 t (nI (vsz r + vln V))) t rw cb (f.sW V :: r) ∧ OPM [120] t m (mSA m 120 t (nI (vsz r + vln V))) := by
  obtain ⟨⟨y1, y2, y3, y4, y5, ⟨i1, i2, i3, i4, i5⟩, y7, y8, y9⟩, y10⟩ := h
  have o : ∀ g, g ≠ 120 → ∀ i, mA (mSA m 120 t (nI (vsz r + vln V))) g i = mA m g i := fun g q i => by rw [mA_SAo q]
  rw [hW] at y8
  have hm : mln f.W = mln V := by rw [hW, (mln_app X V).1, mlnX hX, Nat.zero_add]
  have hv : vln V ≤ vln f.W := by rw [hW, (mln_app X V).2]; omega
  have e1 : tsz (f.sW V :: r) = tsz (f :: r) := by show tsz r + mln V = tsz r + mln f.W; omega
  have e2 : vsz (f :: r) = vsz r + vln f.W := rfl
  exact ⟨⟨⟨by rw [o 111 (by decide)]; exact y1, y2, by rw [o 117 (by decide)]; exact y3, by rw [o 123 (by decide), e1]; exact y4, ⟨y5.1, by show vsz r + vln V ≤ 9000; omega, by omega⟩, ⟨by rw [o 112 (by decide)]; exact i1, by rw [o 113 (by decide)]; exact i2, by rw [o 114 (by decide)]; exact i3, fun z => by rw [o 115 (by decide)]; exact i4 z, by rw [o 116 (by decide)]; exact i5⟩, fun i hi => by rw [o 118 (by decide), o 119 (by decide)]; exact y7 i hi, y8.sub.of (fun g j q _ hj => o g (by omega) _) (fun g j q1 q2 _ _ => o g (by omega) _), y9.of (fun g k q1 q2 _ => o g (by omega) _) (fun g j q _ => o g (by omega) _) (fun g j q hj => o g (by omega) _) (fun g j q1 q2 _ => o g (by omega) _)⟩, mA_SAe⟩, opm_1 (by decide)⟩
/-- Machine.call -/
theorem c_call {n t u A B : Nat} {C : Nat × Nat} {c : cd_S} {b : cd_B} {F : List FR} {gv : Int32} (ht : t < 8) (hu : u < 60) (hB : Bd C c b) (hT : TC c t F) : ∃ c', f_X1_call n c t u (nI A) (nI B) gv = some (3, c') ∧ Bd C c' b ∧ TC c' t F ∧ OPC [50, 238, 239, 240, 241] t c c' ∧ cd_dp c' 50 0 = some t ∧ cd_dp c' 238 t = some u ∧ cI c' 239 t = nI A ∧ cI c' 240 t = nI B ∧ cI c' 241 t = gv ∧ ∀ q, cRF c' (9 + t) q = cRF c (9 + t) q := by
  obtain ⟨c', ec⟩ : ∃ c', c' = cSI (cSI (cSI (cSP (cSP c 50 0 (t + 1)) 238 t (u + 1)) 239 t (nI A)) 240 t (nI B)) 241 t gv := ⟨_, rfl⟩
  have oc : OPC [50, 238, 239, 240, 241] t c c' := by
    rw [ec]
    refine ((OPC.tr (c2 := cSP (cSP c 50 0 (t + 1)) 238 t (u + 1)) ?_ ((opc_I (by decide)).mo (by simp))).tr ((opc_I (by decide)).mo (by simp))).tr ((opc_I (by decide)).mo (by simp))
    exact ⟨cd_fr_SP (cd_fr_SP (cd_fr_refl _ _ _) (by simp) _ _) (by simp) _ _, fun x _ => ⟨fun _ _ _ => ⟨rfl, rfl, fun _ => rfl⟩, rfl, fun _ => rfl⟩⟩
  refine ⟨c', ?_, hB.of (fun r hr => by rw [ec, cI_SIo (by decide), cI_SIo (by decide), cI_SIo (by decide)]; rfl) (fun r hr => by rw [ec]; rfl), ?_, oc, ?_, ?_, ?_, ?_, ?_, fun q => by rw [ec]; rfl⟩
  · unfold f_X1_call f_X7_call
    rw [bs_some, bs_some, bs_some, bs_some, bs_some, bs_some, ec]
  · obtain ⟨h1, h2, h3, h4⟩ := hT
    exact ⟨by rw [cd_frI oc.1 (by decide) (by decide)]; exact h1, h2, by rw [rsz_e (c := c) (by rw [ec, cI_SIo (by decide), cI_SIo (by decide), cI_SIo (by decide)]; rfl)]; exact h3, h4.of (fun g k a b _ => cd_frA oc.1 (by simp; omega) (by omega) t k) (fun j _ => by rw [ec]; rfl)⟩
  · have e1 : c'.2.2.2.2.1 50 0 = t + 1 := by
      rw [ec]
      show (if 50 = 238 ∧ 0 = t then u + 1 else if 50 = 50 ∧ 0 = 0 then t + 1 else c.2.2.2.2.1 50 0) = t + 1
      rw [if_neg (fun z => absurd z.1 (by decide)), if_pos ⟨rfl, rfl⟩]
    unfold cd_dp
    rw [e1, show cd_pool (cd_oc 50) = 8 by decide, if_pos ⟨by omega, by omega⟩, Nat.add_sub_cancel]
  · have e1 : c'.2.2.2.2.1 238 t = u + 1 := by
      rw [ec]
      show (if 238 = 238 ∧ t = t then u + 1 else _) = u + 1
      rw [if_pos ⟨rfl, rfl⟩]
    unfold cd_dp
    rw [e1, show cd_pool (cd_oc 238) = 60 by decide, if_pos ⟨by omega, by omega⟩, Nat.add_sub_cancel]
  · rw [ec, cI_SIo (by decide), cI_SIo (by decide), cI_SIe]
  · rw [ec, cI_SIo (by decide), cI_SIe]
  · rw [ec, cI_SIe]
