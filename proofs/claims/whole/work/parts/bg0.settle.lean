/-! who has what is asked for, in the class -/
theorem HM.fr {c c' : cd_S} {g d l r : Nat} {x : Int32} {F R : List Nat} (h : HM c g d l r x) (hf : cd_fr F R c c') (hF : ∀ x, x ∈ [98, 99, 100, 160, 161, 162, 163] → x ∉ F) : HM c' g d l r x := by
  have a98 : ∀ i, cAr c' 98 0 i = cAr c 98 0 i := fun i => cd_frA hf (hF 98 (by decide)) (by decide) 0 i
  have a99 : ∀ i, cAr c' 99 0 i = cAr c 99 0 i := fun i => cd_frA hf (hF 99 (by decide)) (by decide) 0 i
  have a100 : ∀ i, cAr c' 100 0 i = cAr c 100 0 i := fun i => cd_frA hf (hF 100 (by decide)) (by decide) 0 i
  have j160 : ∀ i, cJ c' 160 i = cJ c 160 i := fun i => cd_frJ hf (hF 160 (by decide)) (by decide) i
  have i162 : ∀ i, cI c' 162 i = cI c 162 i := fun i => cd_frI hf (hF 162 (by decide)) (by decide) i
  have i163 : ∀ i, cI c' 163 i = cI c 163 i := fun i => cd_frI hf (hF 163 (by decide)) (by decide) i
  have l161 : ∀ i j, cLr c' 161 i j = cLr c 161 i j := fun i j => cd_frL hf (hF 161 (by decide)) (by decide) i j
  have hh : ∀ o z, HAS c' o z r ↔ HAS c o z r := fun o z => by
    unfold HAS COV
    simp only [j160, i162, i163, l161]
  have hg : ∀ i, GH c' r i ↔ GH c r i := fun i => by
    unfold GH
    simp only [a98, hh]
  have hl : ∀ i, LH c' r i ↔ LH c r i := fun i => by
    unfold LH
    simp only [a99, hh]
  have hd : ∀ i, DH c' g r i ↔ DH c g r i := fun i => by
    unfold DH
    simp only [a100, hg]
  unfold HM at h ⊢
  simp only [hd, hl]
  exact h
theorem c_setaL {n : Nat} {c : cd_S} {m : md_S} {g l d N : Nat} (hn : 100 ≤ n) (hP : PolQ c m g g l) (hd : DomR c m d) (hN : cI c 109 0 = nI N) (hN24 : N ≤ 24) (hA : ∀ i, i < N → RP c m (168 + i) (240 + i) ∧ NR (cJ c 160 (168 + i)) (mL m 49 i)) : ∀ (dd j i : Nat) (c1 : cd_S), i + dd = N → dd < j → cd_fr [104] [] c c1 → (∀ x, x < i → cAr c 103 0 x = 0 → HM c g d l (168 + x) (cAr c1 104 0 x)) → ∃ c2, f_X3_settleAskings_L2 n j c1 (nI i) = some (c2, nI N) ∧ cd_fr [104] [] c c2 ∧ ∀ x, x < N → cAr c 103 0 x = 0 → HM c g d l (168 + x) (cAr c2 104 0 x) := by
  intro dd
  induction dd with
  | zero =>
    intro j i c1 hi hj hf h
    obtain ⟨j, rfl⟩ : ∃ q, j = q + 1 := ⟨j - 1, by omega⟩
    obtain rfl : i = N := by omega
    refine ⟨c1, ?_, hf, h⟩
    rw [u_X3_settleAskings_L2, cd_frI hf (by decide) (by decide), hN, if_pos ((nI_leI (by omega) (by omega)).mpr (Nat.le_refl _))]
  | succ dd ih =>
    intro j i c1 hi hj hf h
    obtain ⟨j, rfl⟩ : ∃ q, j = q + 1 := ⟨j - 1, by omega⟩
    obtain ⟨r1, r2⟩ := hA i (by omega)
    rw [u_X3_settleAskings_L2, cd_frI hf (by decide) (by decide), hN, if_neg (fun y => absurd ((nI_leI (by omega) (by omega)).mp y) (by omega)), c_ld103 (by omega), bs_some, cd_frA hf (by decide) (by decide)]
    unfold f_X3_settleAskings_J35
    rw [nI_1]
    by_cases h3 : cAr c 103 0 i = 0
    · rw [if_pos h3, c_ld102 (by omega), bs_some]
      have hP1 : PolQ c1 m g g l := hP.fr hf (md_fr_refl m []) (by decide) (by decide)
      have hd1 : DomR c1 m d := by
        obtain ⟨d1, d2, d3, d4⟩ := hd
        exact ⟨d1, by rw [cd_frI hf (by decide) (by decide)]; exact d2, d3, fun x hx => by rw [cd_frA hf (by decide) (by decide)]; exact d4 x hx⟩
      obtain ⟨x, x1, x2⟩ := holders_c (n := n) (r := 168 + i) (p := 240 + i) hn hP1.pol hd1 (r1.fr hf (md_fr_refl m []) (by decide) (by decide)) (by omega) (kd := mL m 49 i) (by rw [cd_frJ hf (by decide) (by decide)]; exact r2)
      have x3 : HM c g d l (168 + i) x := x2.fr (c' := c) (F := [104]) (R := []) ⟨fun k hk h9 => by
        obtain ⟨a1, a2, a3, a4, a5⟩ := hf.1 k hk h9
        exact ⟨a1.symm, a2.symm, a3.symm, a4.symm, a5.symm⟩, fun r hr => by
        obtain ⟨a1, a2, a3⟩ := hf.2 r hr
        exact ⟨a1.symm, a2.symm, a3.symm⟩⟩ (by decide)
      rw [x1, bs_some]
      dsimp only
      rw [c_st104 (by omega), bs_some]
      refine ih j (i + 1) _ (by omega) (by omega) (cd_fr_SA hf (by decide) _ _ _) (fun y hy hy3 => ?_)
      by_cases hyi : y = i
      · rw [hyi, cA_SAe]; exact x3
      · rw [cA_SAi hyi]; exact h y (by omega) hy3
    · rw [if_neg h3]
      refine ih j (i + 1) c1 (by omega) (by omega) hf (fun y hy hy3 => ?_)
      by_cases hyi : y = i
      · rw [hyi] at hy3; exact absurd hy3 h3
      · exact h y (by omega) hy3
theorem c_setA {n : Nat} {c : cd_S} {m : md_S} {g l d : Nat} (hn : 100 ≤ n) (hP : PolQ c m g g l) (hd : DomR c m d) (hA : AGR c m) : ∃ c2, f_X3_settleAskings n c = some (0, c2) ∧ cd_fr [104] [] c c2 ∧ ∀ x, x < mN m 48 → mA m 136 x = 0 → HM c g d l (168 + x) (cAr c2 104 0 x) := by
  obtain ⟨h1, h2, h3, h4⟩ := hA
  obtain ⟨c2, a1, a2, a3⟩ := c_setaL (n := n) hn hP hd h1 h3 (fun i hi => ⟨(h4 i hi).1, (h4 i hi).2.1⟩) (mN m 48) n 0 c (by omega) (by omega) (cd_fr_refl _ _ _) (fun x hx => by omega)
  refine ⟨c2, ?_, a2, fun x hx h0 => a3 x hx (by rw [(h4 x hx).2.2.2.2]; exact h0)⟩
  unfold f_X3_settleAskings
  rw [show f_X3_settleAskings_L2 n n c 0 = _ from a1, bs_some]
/-! the class writes all codes -/
def CR : List Nat := (List.range 60).flatMap (fun u => [18 + 3 * u, 19 + 3 * u])
theorem CR_mem {u : Nat} (R : Bool) (hu : u < 60) : (if R = true then 19 + 3 * u else 18 + 3 * u) ∈ CR := by
  refine List.mem_flatMap.mpr ⟨u, List.mem_range.mpr hu, ?_⟩
  cases R <;> simp
theorem CR_no {u : Nat} : 17 + 3 * u ∉ CR := fun h => by
  obtain ⟨v, -, h2⟩ := List.mem_flatMap.mp h
  simp at h2
  omega
def cRw (u : Nat) (R : Bool) : Nat := if R = true then 19 + 3 * u else 18 + 3 * u
theorem c_codL {n : Nat} {C : Nat × Nat} {c0 : cd_S} {m : md_S} {U : Nat} {S : Nat → Prop} {B : Nat → Bool → List Nat} (hn : 1000000 ≤ n) (hC : BC C) (hM : MCX m U S) (hX : CCX c0 m U S) (hB : ∀ u R, u < U → COD n c0 m u S R (B u R)) : ∀ (d j u : Nat) (c : cd_S) (b : cd_B), u + d = U → d < j → Bd C c b → NN c → cd_fr [79] CR c0 c → (∀ v R, v < u → rL c (cRw v R) = (B v R).map i64) → ∃ c' b', f_X2_writeCode_L9 n j c b (nI u) = some (c', b', nI U) ∧ Bd C c' b' ∧ ble b' b ∧ NN c' ∧ cd_fr [79] CR c0 c' ∧ ∀ v R, v < U → rL c' (cRw v R) = (B v R).map i64 := by
  intro d
  have hU60 := hM.1.2.1
  have hF : ∀ x, x ∈ [66, 77, 78, 288, 289, 291, 293, 294, 296, 298, 299, 300, 301] → x ∉ [79] := by decide
  have one : ∀ (u : Nat) (R : Bool) (c : cd_S) (b : cd_B), u < U → Bd C c b → NN c → cd_fr [79] CR c0 c → ∃ c' b', f_X9_write n c b u (if R = true then 1 else 0) = some (0, c', b') ∧ Bd C c' b' ∧ ble b' b ∧ NN c' ∧ cd_fr [79] CR c0 c' ∧ rL c' (cRw u R) = (B u R).map i64 ∧ ∀ q, q ≠ cRw u R → rL c' q = rL c q := by
    intro u R c b hu hBd hN hf
    obtain ⟨c', b', a1, a2, a3, a4, a5, a6⟩ := c_cod (r := cRw u R) hn hC hM (hX.fr hf hF (fun v _ => CR_no)) hu (hB u R hu) (rL_fr hf CR_no) hN hBd rfl
    exact ⟨c', b', a1, a2, a3, a5, cd_fr_tr hf a4 (fun k hk => ⟨hk, hk⟩) (fun k hk => ⟨hk, fun y => hk (by rw [List.mem_singleton.mp y]; exact CR_mem R (by omega))⟩), a6, fun q hq => rL_fr a4 (by rw [List.mem_singleton]; exact hq)⟩
  induction d with
  | zero =>
    intro j u c b hu hj hBd hN hf h
    obtain ⟨j, rfl⟩ : ∃ q, j = q + 1 := ⟨j - 1, by omega⟩
    obtain rfl : u = U := by omega
    refine ⟨c, b, ?_, hBd, ble.refl _, hN, hf, h⟩
    rw [u_X2_writeCode_L9, cd_frI hf (by decide) (by decide), hX.1, if_pos ((nI_leI (by omega) (by omega)).mpr (Nat.le_refl _))]
  | succ d ih =>
    intro j u c b hu hj hBd hN hf h
    obtain ⟨j, rfl⟩ : ∃ q, j = q + 1 := ⟨j - 1, by omega⟩
    obtain ⟨c1, b1, a1, a2, a3, a4, a5, a6, a7⟩ := one u false c b (by omega) hBd hN hf
    obtain ⟨c2, b2, d1, d2, d3, d4, d5, d6, d7⟩ := one u true c1 b1 (by omega) a2 a4 a5
    rw [if_neg (by decide)] at a1
    rw [if_pos rfl] at d1
    obtain ⟨c3, b3, e1, e2, e3, e4, e5, e6⟩ := ih j (u + 1) c2 b2 (by omega) (by omega) d2 d4 d5 (fun v R hv => by
      by_cases hvu : v = u
      · rw [hvu]
        cases R
        · rw [d7 _ (by unfold cRw; simp), a6]
        · exact d6
      · rw [d7 _ (by unfold cRw; simp; split <;> omega), a7 _ (by unfold cRw; simp; split <;> omega)]
        exact h v R (by omega))
    refine ⟨c3, b3, ?_, e2, (e3.tr d3).tr a3, e4, e5, e6⟩
    rw [u_X2_writeCode_L9, cd_frI hf (by decide) (by decide), hX.1, if_neg (fun y => absurd ((nI_leI (by omega) (by omega)).mp y) (by omega)), c_ldU (by omega), bs_some, a1, bs_some]
    refine c_ck ?_ (e3.tr d3).1 (e3.tr d3).2
    dsimp only
    rw [bs_some, d1, bs_some]
    refine c_ck ?_ e3.1 e3.2
    dsimp only
    rw [nI_1]
    exact e1
theorem c_writeCode {n : Nat} {C : Nat × Nat} {c c1 : cd_S} {m : md_S} {b : cd_B} {U : Nat} {S : Nat → Prop} {B : Nat → Bool → List Nat} (hn : 1000000 ≤ n) (hC : BC C) (hs : f_X3_settleAskings n c = some (0, c1)) (hM : MCX m U S) (hX : CCX c1 m U S) (hB : ∀ u R, u < U → COD n c1 m u S R (B u R)) (hBd : Bd C c1 b) (hN : NN c1) : ∃ c' b', f_X2_writeCode n c b = some (0, c', b') ∧ Bd C c' b' ∧ ble b' b ∧ NN c' ∧ cd_fr [79] CR c1 c' ∧ ∀ v R, v < U → rL c' (cRw v R) = (B v R).map i64 := by
  have hU60 := hM.1.2.1
  obtain ⟨c', b', a1, a2, a3, a4, a5, a6⟩ := c_codL (n := n) hn hC hM hX hB U n 0 c1 b (by omega) (by omega) hBd hN (cd_fr_refl _ _ _) (fun v R hv => by omega)
  refine ⟨c', b', ?_, a2, a3, a4, a5, a6⟩
  unfold f_X2_writeCode
  refine c_ck ?_ a3.1 a3.2
  rw [hs, bs_some]
  dsimp only
  rw [show f_X2_writeCode_L9 n n c1 b 0 = _ from a1, bs_some]
  exact c_ck rfl (Nat.le_refl _) (Nat.le_refl _)
