/-! closeInner -/
theorem CS.setnow {c : cd_S} {k p : Nat} (h : CS c k) (hp : p < cN c 66) : CS (cSP c 136 0 (p + 1)) k ∧ cN (cSP c 136 0 (p + 1)) 66 = cN c 66 := by
  obtain ⟨x1, x2, x3, x4, x5, x6, x7, x8, x9⟩ := h
  exact ⟨⟨x1, x2, x3, x4, x5, trivial, ⟨p, hp, cP_SPe⟩, x8, x9⟩, rfl⟩
theorem c_shutL {n : Nat} {C : Nat × Nat} {c0 : cd_S} {u q k : Nat} {what : Int32} (hC : BC C) (hq13 : q ≤ 13) : ∀ (d x j : Nat) (c : cd_S) (b : cd_B), CS c (k + d) → CI C c0 b c b → cI c 299 u = nI q → x + d = q → d < j → ∃ c' b', f_X4_closeInner_L25 n u what j c b (nI x) = some (c', b', nI q) ∧ ble b' b ∧ CI C c0 b' c' b' ∧ CS c' k ∧ cN c' 66 = cN c 66 ∧ (∀ pl, BW c pl → BW c' pl) ∧ cI c' 288 u = cI c 288 u := by
  intro d
  induction d with
  | zero =>
    intro x j c b h hc hq hx hj
    obtain ⟨j, rfl⟩ : ∃ r, j = r + 1 := ⟨j - 1, by omega⟩
    obtain rfl : x = q := by omega
    refine ⟨c, b, ?_, ble.refl _, hc, h, rfl, fun _ y => y, rfl⟩
    rw [u_X4_closeInner_L25, hq, if_pos ((nI_leI (by omega) (by omega)).mpr (Nat.le_refl _))]
  | succ d ih =>
    intro x j c b h hc hq hx hj
    obtain ⟨j, rfl⟩ : ∃ r, j = r + 1 := ⟨j - 1, by omega⟩
    obtain ⟨w, b7, u1, u2, u3, u4, u5, u6, u7⟩ := CS.em (n := n) (k := k + d) (x := 2) (y := cAr c 300 u x) (z := 0) hC h hc
    obtain ⟨c', b', e1, e2, e3, e4, e5, e6, e7⟩ := ih (x + 1) j _ b7 u6 u5 (by rw [em_I (by decide)]; exact hq) (by omega) (by omega)
    refine ⟨c', b', ?_, e2.tr u4, e3, e4, e5.trans u7, fun pl y => e6 pl y.em, e7.trans (em_I (by decide))⟩
    rw [u_X4_closeInner_L25, hq, if_neg (fun y => absurd ((nI_leI (by omega) (by omega)).mp y) (by omega)), u2, bs_some, c_ld300 (by omega), bs_some, u3, bs_some, nI_1]
    exact c_ck e1 e2.1 e2.2
/-- the class shuts a unit on the road of no word -/
theorem cs_shut {n : Nat} {C : Nat × Nat} {c0 c : cd_S} {b0 b : cd_B} {u k : Nat} {what : Int32} (hC : BC C) (hn : 5000 ≤ n) (h : CS c (k + 15)) (hc : CI C c0 b0 c b) (hu : u < cN c 66) : ∃ c' b', f_X4_closeInner n c b u what = some (0, c', b') ∧ ble b' b ∧ CI C c0 b' c' b' ∧ CS c' k ∧ cN c' 66 = cN c 66 ∧ ∀ pl, BW c pl → BW c' pl := by
  have h0 := h
  obtain ⟨x1, x2, x3, x4, x5, x6, x7, x8, x9⟩ := h0
  obtain ⟨t1, ⟨p, p1, p2⟩, ⟨q, q1, q2⟩, t4⟩ := x9 u hu
  obtain ⟨b1, e1, e2, e3⟩ := c_emit (n := n) (x := 28) (y := 0) (z := 0) hC hc.1 (show u < 60 by omega) (by omega)
  have hc1 := (hc.em e2 e3 (show u < 60 by omega)).here
  obtain ⟨g1, g2⟩ := CS.emit (x := 28) (y := 0) (z := 0) (k := k + 14) h hu
  obtain ⟨g3, g4⟩ := g1.setnow (p := p) (by omega)
  have hc2 : CI C c0 b1 (cSP (em c u 28 0 0) 136 0 (p + 1)) b1 := hc1.fr (F := [136]) (cd_fr_SP (cd_fr_refl _ _ _) (by decide) _ _) (by decide)
  have hq2 : cI (cSP (em c u 28 0 0) 136 0 (p + 1)) 299 u = nI q := by rw [cI_SP, em_I (by decide)]; exact q2
  have ea : k + (14 - q) + q = k + 14 := by omega
  have eb : k + (13 - q) + 1 = k + (14 - q) := by omega
  obtain ⟨c3, b3, r1, r2, r3, r4, r5, r6, r7⟩ := c_shutL (n := n) (k := k + (14 - q)) (what := what) hC q1 q 0 n _ b1 (by rw [ea]; exact g3) hc2 hq2 (by omega) (by omega)
  obtain ⟨w, b4, u1, u2, u3, u4, u5, u6, u7⟩ := CS.em (n := n) (k := k + (13 - q)) (x := what) (y := cI c3 288 u) (z := 0) hC (by rw [eb]; exact r4) r3
  refine ⟨_, b4, ?_, (u4.tr r2).tr e3, u5, u6.less (by omega), ?_, fun pl y => ?_⟩
  · unfold f_X4_closeInner
    rw [e1, bs_some]
    refine c_ck ?_ ((u4.tr r2).tr e3).1 ((u4.tr r2).tr e3).2
    refine c_ck ?_ (u4.tr r2).1 (u4.tr r2).2
    dsimp only
    rw [em_I (by decide), p2, c_unitAt (by omega), bs_some, bs_some]
    dsimp only
    have r1' : f_X4_closeInner_L25 n u what n (cSP (em c u 28 0 0) 136 0 (p + 1)) b1 0 = some (c3, b3, nI q) := r1
    rw [r1', bs_some]
    refine c_ck ?_ u4.1 u4.2
    dsimp only
    rw [u2, bs_some, u3, bs_some]
    exact c_ck rfl (Nat.le_refl _) (Nat.le_refl _)
  · rw [u7, r5, g4, g2]
  · exact (r6 pl ⟨by rw [cI_SP]; exact y.em.1, by rw [cI_SP]; exact y.em.2⟩).em
theorem BN.shutL {n : Nat} {C : Nat × Nat} {B : Nat → Int32} {N : Nat} {c0 c : cd_S} {m m' : md_S} {O : List Nat} {mc k kl i u q : Nat} {t x y what : Int32} {lc0 l0 l1 : Nat} {ch : List Nat} {ess : List (List EN)} {ns : List Nat} {w : WD} {L : List WD} (hC : BC C) (hq13 : q ≤ 13) : ∀ (d z j : Nat) (cx : cd_S) (b : cd_B) (pre : List EN), BN c cx m m' O mc (k + d) kl i t x y lc0 l0 l1 ch ess ns pre → LX B N cx m' w L → CI C c0 b cx b → cI cx 299 u = nI q → (∀ a, a < q → cAr cx 300 u a = kv m' (aN m' 45 (16 * u + a))) → z + d = q → d < j → ∃ c' b', f_X4_closeInner_L25 n u what j cx b (nI z) = some (c', b', nI q) ∧ ble b' b ∧ CI C c0 b' c' b' ∧ BN c c' m m' O mc k kl i t x y lc0 l0 l1 ch ess ns (pre ++ ((List.range q).drop z).map (fun a => (2, kv m' (aN m' 45 (16 * u + a)), 0))) ∧ LX B N c' m' w L ∧ cI c' 288 u = cI cx 288 u := by
  intro d
  induction d with
  | zero =>
    intro z j cx b pre h hX hc hq hk hz hj
    obtain ⟨j, rfl⟩ : ∃ r, j = r + 1 := ⟨j - 1, by omega⟩
    obtain rfl : z = q := by omega
    refine ⟨cx, b, ?_, ble.refl _, hc, ?_, hX, rfl⟩
    · rw [u_X4_closeInner_L25, hq, if_pos ((nI_leI (by omega) (by omega)).mpr (Nat.le_refl _))]
    · rw [List.drop_eq_nil_of_le (by simp), List.map_nil, List.append_nil]; exact h
  | succ d ih =>
    intro z j cx b pre h hX hc hq hk hz hj
    obtain ⟨j, rfl⟩ : ∃ r, j = r + 1 := ⟨j - 1, by omega⟩
    obtain ⟨b7, d1, d2, d3, d4, d5, d6⟩ := BN.emit (n := n) (k := k + d) (e1 := 2) (e2 := cAr cx 300 u z) (e3 := 0) hC hc h hX
    obtain ⟨c', b', e1, e2, e3, e4, e5, e6⟩ := ih (z + 1) j _ b7 _ d5 d6 d4 (by rw [em_I (by decide)]; exact hq) (fun a ha => by rw [em_A (by decide)]; exact hk a ha) (by omega) (by omega)
    refine ⟨c', b', ?_, e2.tr d3, e3, ?_, e5, e6.trans (em_I (by decide))⟩
    · rw [u_X4_closeInner_L25, hq, if_neg (fun y => absurd ((nI_leI (by omega) (by omega)).mp y) (by omega)), d1, bs_some, c_ld300 (by omega), bs_some, d2, bs_some, nI_1]
      exact c_ck e1 e2.1 e2.2
    · rw [hk z (by omega)] at e4
      rw [List.drop_eq_getElem_cons (by simp; omega), List.map_cons, List.getElem_range]
      rw [List.append_assoc] at e4
      exact e4
