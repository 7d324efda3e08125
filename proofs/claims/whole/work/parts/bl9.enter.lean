/-! a frame begins: its place in the thread -/
def nones (k : Nat) : List Int64 := List.replicate k 4294967296
theorem c_entL {n T u A L : Nat} {C : Nat × Nat} {c0 : cd_S} (hC : BC C) (hT : T < 8) (hA : A + L < 32768) (h238 : cd_dp c0 238 T = some u) (h239 : cI c0 239 T = nI A) (hL : cI c0 299 u + cI c0 298 u = nI L) : ∀ (e j i : Nat) (c : cd_S) (b : cd_B), i + e = A + L → e < j → Bd C c b → cd_fr [] [9 + T] c0 c → rsz c (9 + T) = i → ∃ c' b', f_X7_enter_L124 n T j c b (nI i) = some (c', b', nI (A + L)) ∧ Bd C c' b' ∧ ble b' b ∧ cd_fr [] [9 + T] c0 c' ∧ rsz c' (9 + T) = A + L ∧ (∀ q, q < i → cRF c' (9 + T) q = cRF c (9 + T) q) ∧ ∀ q, i ≤ q → q < A + L → cRF c' (9 + T) q = 4294967296 := by
  intro e
  have hcap : rcap (9 + T) = 32768 := by
    unfold rcap rc0 rck
    simp only [show ¬ 9 + T = 0 by omega, show ¬ 9 + T = 1 by omega, show ¬ 9 + T = 2 by omega, show ¬ 9 + T = 3 by omega, show ¬ 9 + T = 4 by omega, show ¬ 9 + T = 5 by omega, show ¬ 9 + T = 6 by omega, show ¬ 9 + T = 7 by omega, show ¬ 9 + T = 8 by omega, show 9 + T < 17 by omega, if_true, if_false]
  have hdp : ∀ c, cd_fr [] [9 + T] c0 c → cd_dp c 238 T = some u := fun c hc => by
    have := cd_frP hc (f := 238) (by simp) (by decide) T
    unfold cd_dp at h238 ⊢
    have e2 : c.2.2.2.2.1 238 T = c0.2.2.2.2.1 238 T := this
    rw [e2]; exact h238
  have hhd : ∀ (c : cd_S) (b : cd_B) (j i : Nat), cd_fr [] [9 + T] c0 c → f_X7_enter_L124 n T (j + 1) c b (nI i) = (if nI (A + L) ≤ nI i then (some (c, b, nI i)) else (Option.bind (f_X6_add n c b (9 + T) (4294967296 : Int64)) fun p13 => cd_ck (fun (q : cd_S × cd_B × Int32) => q.2.1) (p13.2.2) <| (f_X7_enter_L124 n T j) p13.2.1 (p13.2.2) ((nI i + 1)))) := fun c b j i hc => by
    rw [u_X7_enter_L124, hdp c hc, bs_some]
    unfold f_X9_locals
    rw [bs_some]
    dsimp only
    rw [cd_frI hc (by simp) (by decide), cd_frI hc (by simp) (by decide), cd_frI hc (by simp) (by decide), hL, h239, nI_add, Nat.one_mul]
  induction e with
  | zero =>
    intro j i c b hi hj hB hfr hz
    obtain ⟨j, rfl⟩ : ∃ q, j = q + 1 := ⟨j - 1, by omega⟩
    refine ⟨c, b, ?_, hB, ble.refl b, hfr, by omega, fun _ _ => rfl, fun q a z => by omega⟩
    rw [hhd c b j i hfr, if_pos ((nI_leI (by omega) (by omega)).mpr (by omega)), show i = A + L by omega]
  | succ e ih =>
    intro j i c b hi hj hB hfr hz
    obtain ⟨j, rfl⟩ : ∃ q, j = q + 1 := ⟨j - 1, by omega⟩
    obtain ⟨b1, d1, e1, f1, g1⟩ := c_add (n := n) (v := 4294967296) hC hB (r := 9 + T) (by omega) (by omega)
    have y1 : rsz (rAdd c (9 + T) 4294967296) (9 + T) = i + 1 := by rw [rAdd_sz (by omega), hz]
    have k0 := (hB.1 (9 + T) (by omega)).2.1
    obtain ⟨c', b', k1, k2, k3, k4, k5, k6, k7⟩ := ih j (i + 1) (rAdd c (9 + T) 4294967296) b1 (by omega) (by omega) e1 (cd_fr_add hfr (by simp) _) y1
    refine ⟨c', b', ?_, k2, ⟨Nat.le_trans k3.1 f1, Nat.le_trans k3.2 g1⟩, k4, k5, fun q hq => ?_, fun q a z => ?_⟩
    · rw [hhd c b j i hfr, if_neg (fun z => absurd ((nI_leI (by omega) (by omega)).mp z) (by omega)), d1, bs_some]
      refine c_ck ?_ k3.1 k3.2
      dsimp only
      rw [nI_1]
      exact k1
    · rw [k6 q (by omega), rAdd_Fl k0 (by omega)]
    · by_cases qe : q = i
      · rw [k6 q (by omega), qe, ← hz, rAdd_Fe]
      · exact k7 q (by omega) z
/-- Strand.enter -/
theorem c_enter {n T u L dd : Nat} {C : Nat × Nat} {c : cd_S} {b : cd_B} {F : List FR} {xs : List Int64} {nd cx : Int32} (hn : 40000 ≤ n) (hC : BC C) (hB : Bd C c b) (hT : T < 8) (hF : CFS c T F) (h232 : cI c 232 T = nI F.length) (hlen : F.length < 60) (h238 : cd_dp c 238 T = some u) (hu : cI c 288 u = nI u) (h239 : cI c 239 T = nI (sz F + dd)) (h240 : cI c 240 T = nI (sz F)) (hL : cI c 299 u + cI c 298 u = nI L) (hz : rsz c (9 + T) = sz F + dd + xs.length) (hxs : ∀ i (h : i < xs.length), cRF c (9 + T) (sz F + dd + i) = xs[i]) (hxL : xs.length ≤ L) (hA : sz F + dd + L < 32768) : ∃ c' b', f_X7_enter n c b T nd cx = some (0, c', b') ∧ Bd C c' b' ∧ ble b' b ∧ TC c' T (((u, 0, dd), (nd, cx), xs ++ nones (L - xs.length), []) :: F) ∧ OPC [224, 225, 226, 227, 228, 229, 232, 233] T c c' ∧ cI c' 233 T = cI c 233 T + 1 := by
  obtain ⟨k, hk⟩ : ∃ k, k = F.length := ⟨_, rfl⟩
  rw [← hk] at h232 hlen
  obtain ⟨c1, e1⟩ : ∃ c1, c1 = cSI (cSI (cSA (cSA (cSA (cSA (cSA (cSA c 224 T k (nI u)) 225 T k 0) 226 T k (nI (sz F + dd))) 227 T k (nI (sz F))) 228 T k nd) 229 T k cx) 232 T (nI (k + 1))) 233 T (cI c 233 T + 1) := ⟨_, rfl⟩
  have o1 : OPC [224, 225, 226, 227, 228, 229, 232, 233] T c c1 := by
    rw [e1]
    exact ((((((((opc_A (by decide)).mo (by simp)).tr ((opc_A (by decide)).mo (by simp))).tr ((opc_A (by decide)).mo (by simp))).tr ((opc_A (by decide)).mo (by simp))).tr ((opc_A (by decide)).mo (by simp))).tr ((opc_A (by decide)).mo (by simp))).tr ((opc_I (by decide)).mo (by simp))).tr ((opc_I (by decide)).mo (by simp))
  have hB1 : Bd C c1 b := hB.of (fun r hr => by rw [e1]; rw [cI_SIo (by decide), cI_SIo (by decide)]; rfl) (fun r hr => by rw [e1]; rfl)
  have hz1 : rsz c1 (9 + T) = sz F + dd + xs.length := by rw [rsz_e (c := c) (by rw [e1, cI_SIo (by decide), cI_SIo (by decide)]; rfl)]; exact hz
  have hF1 : ∀ q, cRF c1 (9 + T) q = cRF c (9 + T) q := fun q => by rw [e1]; rfl
  have h238' : cd_dp c1 238 T = some u := by rw [e1]; exact h238
  obtain ⟨c2, b2, r1, r2, r3, r4, r5, r6, r7⟩ := c_entL (n := n) (T := T) (u := u) (A := sz F + dd) (L := L) hC hT hA h238' (by rw [e1, cI_SIo (by decide), cI_SIo (by decide)]; exact h239) (by rw [e1, cI_SIo (by decide), cI_SIo (by decide), cI_SIo (by decide), cI_SIo (by decide)]; exact hL) (L - xs.length) n (sz F + dd + xs.length) c1 b (by omega) (by omega) hB1 (cd_fr_refl _ _ _) hz1
  have o2 : OPC [224, 225, 226, 227, 228, 229, 232, 233] T c1 c2 := ⟨cd_fr_mono r4 (by simp) (by simp), fun x hx => SAG.fr r4 (by simp) (by simp; omega)⟩
  have a2 : ∀ g j, 224 ≤ g → g ≤ 229 → cAr c2 g T j = cAr c1 g T j := fun g j z1 z2 => cd_frA r4 (by simp) (by omega) T j
  have b2' : ∀ g j, 224 ≤ g → g ≤ 229 → j ≠ k → cAr c1 g T j = cAr c g T j := fun g j z1 z2 hj => by
    rw [e1]
    simp only [cA_SI, cA_SA]
    simp [hj]
  refine ⟨c2, b2, ?_, r2, r3, ⟨?_, by rw [List.length_cons, ← hk]; omega, ?_, ⟨?_, ?_, ?_, ?_, ?_, ?_⟩, fun i hi => ?_, trivial, ?_⟩, o1.tr o2, ?_⟩
  · unfold f_X7_enter
    refine c_ck ?_ r3.1 r3.2
    rw [h238, bs_some, h232, if_neg (show ¬ nI k < 0 from nI_nn (by omega)), if_pos (show nI k < 60 from (nI_ltI (b := 60) (by omega) (by decide)).mpr hlen), bs_some, hu, c_st224 hlen, bs_some, show cI (cSA c 224 T k (nI u)) 232 T = nI k from h232, c_st225 hlen, bs_some, show cI (cSA (cSA c 224 T k (nI u)) 225 T k 0) 232 T = nI k from h232, show cI (cSA (cSA c 224 T k (nI u)) 225 T k 0) 239 T = nI (sz F + dd) from h239, c_st226 hlen, bs_some]
    rw [show cI (cSA (cSA (cSA c 224 T k (nI u)) 225 T k 0) 226 T k (nI (sz F + dd))) 232 T = nI k from h232, show cI (cSA (cSA (cSA c 224 T k (nI u)) 225 T k 0) 226 T k (nI (sz F + dd))) 240 T = nI (sz F) from h240, c_st227 hlen, bs_some]
    rw [show cI (cSA (cSA (cSA (cSA c 224 T k (nI u)) 225 T k 0) 226 T k (nI (sz F + dd))) 227 T k (nI (sz F))) 232 T = nI k from h232, c_st228 hlen, bs_some]
    rw [show cI (cSA (cSA (cSA (cSA (cSA c 224 T k (nI u)) 225 T k 0) 226 T k (nI (sz F + dd))) 227 T k (nI (sz F))) 228 T k nd) 232 T = nI k from h232, c_st229 hlen, bs_some]
    rw [show cI (cSA (cSA (cSA (cSA (cSA (cSA c 224 T k (nI u)) 225 T k 0) 226 T k (nI (sz F + dd))) 227 T k (nI (sz F))) 228 T k nd) 229 T k cx) 232 T = nI k from h232, nI_1, bs_some, cI_SIo (by decide), show cI (cSA (cSA (cSA (cSA (cSA (cSA c 224 T k (nI u)) 225 T k 0) 226 T k (nI (sz F + dd))) 227 T k (nI (sz F))) 228 T k nd) 229 T k cx) 233 T = cI c 233 T from rfl, bs_some, ← e1, Nat.one_mul, (hB1.1 (9 + T) (by omega)).1, hz1, r1, bs_some]
    exact c_ck rfl (Nat.le_refl _) (Nat.le_refl _)
  · rw [cd_frI r4 (by simp) (by decide), e1, cI_SIo (by decide), cI_SIe, List.length_cons, ← hk]
  · rw [r5]
    show sz F + dd + L = sz F + dd + (xs ++ nones (L - xs.length)).length + 0
    rw [List.length_append]; unfold nones; rw [List.length_replicate]; omega
  · rw [a2 224 _ (by decide) (by decide), e1, ← hk]; simp only [cA_SI, cA_SA]; simp; rfl
  · rw [a2 225 _ (by decide) (by decide), e1, ← hk]; simp only [cA_SI, cA_SA]; simp; rfl
  · rw [a2 226 _ (by decide) (by decide), e1, ← hk]; simp only [cA_SI, cA_SA]; simp; rfl
  · rw [a2 227 _ (by decide) (by decide), e1, ← hk]; simp only [cA_SI, cA_SA]; simp
  · rw [a2 228 _ (by decide) (by decide), e1, ← hk]; simp only [cA_SI, cA_SA]; simp; rfl
  · rw [a2 229 _ (by decide) (by decide), e1, ← hk]; simp only [cA_SI, cA_SA]; simp; rfl
  · have hi' : i < (xs ++ nones (L - xs.length)).length := hi
    show cRF c2 (9 + T) (sz F + dd + i) = (xs ++ nones (L - xs.length))[i]
    by_cases q : i < xs.length
    · rw [List.getElem_append_left q, r6 _ (by omega), hF1, hxs i q]
    · rw [List.getElem_append_right (by omega)]
      rw [List.length_append] at hi'
      unfold nones at hi' ⊢
      rw [List.length_replicate] at hi'
      rw [List.getElem_replicate, r7 _ (by omega) (by omega)]
  · exact hF.of (fun g q z1 z2 z3 => by rw [a2 g q z1 z2, b2' g q z1 z2 (by omega)]) (fun j hj => by rw [r6 j (by omega), hF1])
  · rw [cd_frI r4 (by simp) (by decide), e1, cI_SIe]
