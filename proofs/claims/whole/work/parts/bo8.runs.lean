/-! run, whole -/
theorem isu2 {n d : Nat} {c : cd_S} {m : md_S} {a : Int32} (h1 : cI c 362 0 = 1) (h2 : mI m 5 = 1) (hd : PLN n c m d) : (∃ u, a = nI u ∧ u < mN m 35 ∧ u < 60 ∧ f_X11_hasUnit n c a = some (1, c) ∧ f_X12_isUnit n m a = some (1, m)) ∨ (f_X11_hasUnit n c a = some (0, c) ∧ f_X12_isUnit n m a = some (0, m)) := by
  unfold f_X11_hasUnit f_X12_isUnit
  obtain ⟨⟨n1, n2, n3, -⟩, -⟩ := hd.v
  rw [if_neg (show ¬ cI c 362 0 = 0 by rw [h1]; decide), if_neg (show ¬ mI m 5 = 0 by rw [h2]; decide), n1, n2]
  rcases rng_c (a := a) (K := mN m 35) (by omega) with ⟨x, r1, r2, r3⟩ | ⟨r1, r2⟩
  · rcases rng_m (n := n) (s := m) (a := a) (K := mN m 35) (by omega) with ⟨y, q1, q2⟩ | ⟨q1, q2⟩
    · have hx := r1.2
      rw [if_neg r2, if_neg r3, q2, bs_some]
      exact Or.inl ⟨x, r1.1, hx, by omega, rfl, rfl⟩
    · exact absurd r1 (q1 x)
  · rcases rng_m (n := n) (s := m) (a := a) (K := mN m 35) (by omega) with ⟨y, q1, q2⟩ | ⟨q1, q2⟩
    · exact absurd q1 (r1 y)
    · rw [q2, bs_some]
      right
      refine ⟨?_, rfl⟩
      rcases r2 with r2 | ⟨r2, r3⟩
      · rw [if_pos r2]
      · rw [if_neg r2, if_pos r3]
/-- how many steps a run may have -/
theorem stp4000 (n : Nat) (m : md_S) (a : Int32) : (∃ x, a = nI x ∧ 1 ≤ x ∧ x ≤ 4000 ∧ ¬ a < 1 ∧ a ≤ 4000 ∧ f_X12_in n m a.toInt64 1 4000 = some (1, m)) ∨ ((a < 1 ∨ (¬ a < 1 ∧ ¬ a ≤ 4000)) ∧ f_X12_in n m a.toInt64 1 4000 = some (0, m)) := by
  have t1 : (1 : Int32).toInt = 1 := by decide
  have t2 : (4000 : Int32).toInt = 4000 := by decide
  rw [m_in, show (1 : Int64).toInt = 1 from by decide, show (4000 : Int64).toInt = 4000 from by decide, Int32.toInt_toInt64]
  by_cases h1 : a < 1
  · right
    have := Int32.lt_iff_toInt_lt.mp h1
    exact ⟨Or.inl h1, by rw [if_neg (by omega)]⟩
  · by_cases h2 : a ≤ 4000
    · left
      rcases i32_c a with h | ⟨x, rfl, hx⟩
      · exfalso
        have h3 : a.toInt < (0 : Int32).toInt := Int32.lt_iff_toInt_lt.mp h
        rw [show (0 : Int32).toInt = 0 from by decide] at h3
        exact h1 (Int32.lt_iff_toInt_lt.mpr (by omega))
      · have e : (nI x).toInt = (x : Int) := nI_toInt hx
        have h3 : ¬ (nI x).toInt < (1 : Int32).toInt := fun y => h1 (Int32.lt_iff_toInt_lt.mpr y)
        have h4 := Int32.le_iff_toInt_le.mp h2
        rw [t1, e] at h3
        rw [t2, e] at h4
        exact ⟨x, rfl, by omega, by omega, h1, h2, by rw [e, if_pos (by omega)]⟩
    · right
      have h3 : ¬ a.toInt ≤ (4000 : Int32).toInt := fun y => h2 (Int32.le_iff_toInt_le.mpr y)
      rw [t2] at h3
      exact ⟨Or.inr ⟨h1, h2⟩, by rw [if_neg (by omega)]⟩
/-- the plan stays, for one who has run -/
theorem PG.back {n d : Nat} {c c' c1 : cd_S} {m m' m1 : md_S} {D : PD} {F G : List Nat} (hP : PG n c' m' d c1 m1 D) (hcod : ∀ u R, u < mN m1 35 → ∃ bs p, COD n c1 m1 u (LF m1) R bs ∧ rL c (cRw u R) = bs.map i64 ∧ p + bs.length ≤ 77990 ∧ MPL m u (kR R) p bs) (hsc : ∀ u, u < 60 → rL c (17 + 3 * u) = rL c1 (17 + 3 * u)) (fc : cd_fr F mcR c c') (fm : md_fr G m m') (h74 : 74 ∉ G) (h76 : 76 ∉ G) (h77 : 77 ∉ G) : PLN n c' m' d := by
  obtain ⟨⟨h1, -⟩, h2, h3, h4, h5, -⟩ := hP
  refine ⟨c1, m1, h1, h2, ⟨h3, fun u hu => by rw [rL_fr fc (fun y => by have := mc_r _ y; omega)]; exact hsc u hu⟩, h4, h5, fun u R hu => ?_⟩
  obtain ⟨bs, p, x1, x2, x3, x4, x5, x6⟩ := hcod u R hu
  refine ⟨bs, p, x1, ?_, x3, ?_, ?_, fun x hx => ?_⟩
  · rw [rL_fr fc (fun y => by have := mc_r _ y; unfold cRw at this; split at this <;> omega)]
    exact x2
  · rw [md_frA fm h76]; exact x4
  · rw [md_frA fm h77]; exact x5
  · rw [md_frA fm h74]; exact x6 x hx
theorem AskR.k4 {c c' : cd_S} {m m' : md_S} (h : AskR c m) (hr : KR c c') (hm : K4 m m') (h1 : cI c' 363 0 = cI c 363 0) (h2 : mI m' 81 = mI m 81) (h3 : mJ m' 82 = mJ m 82) : AskR c' m' := by
  rcases h with ⟨a, b⟩ | ⟨a, b, ⟨q, tl, r1, r2, r3, r4, r5, r6, r7⟩, e⟩
  · exact Or.inl ⟨h1.trans a, h2.trans b⟩
  · obtain ⟨y1, y2, y3, y4⟩ := hr 195 (by omega)
    obtain ⟨z1, z2, z3⟩ := hm
    exact Or.inr ⟨h1.trans a, h2.trans b, ⟨q, tl, r1, r2, y1.trans r3, y2.trans r4, z1.trans r5, z2.trans r6, fun x hx => by rw [y4, show 5 * 264 + x = 1320 + x from rfl, z3 x (by omega)]; exact r7 x hx⟩, by rw [y3, h3]; exact e⟩
/-- what stands between calls stays where only the model's answer changes -/
theorem RB.s0 {n t : Nat} {C : Nat × Nat} {c : cd_S} {m : md_S} {b : cd_B} (h : RB n C c m b t) (x : Int32) : RB n C c (mSI m 0 x) b t := by
  have fm : md_fr [0] m (mSI m 0 x) := md_fr_SI (md_fr_refl _ _) (by simp) _
  obtain ⟨⟨t1, t2, t3, t4⟩, ht, hK, hB, hN, hA, ⟨hf1, hf2⟩, hp⟩ := h
  refine ⟨⟨t1, t2, ?_, fun i hi => ?_⟩, ht, hK, hB, hN, hA.k4 (KR.refl _) (K4.of fm (by decide) (by decide) (by decide)) rfl (md_frI fm (by decide)) (md_frJ fm (by decide)), ⟨?_, ?_⟩, ?_⟩
  · rw [md_frI fm (by decide)]; exact t3
  · rw [md_frA fm (by decide)]; exact t4 i hi
  · rw [md_frI fm (by decide)]; exact hf1
  · rw [md_frI fm (by decide)]; exact hf2
  · rcases hp with ⟨h1, h2⟩ | ⟨h1, h2, d, c1, m1, h3, h4, h5, h6, h7, h8⟩
    · exact Or.inl ⟨h1, by rw [md_frI fm (by decide)]; exact h2⟩
    · refine Or.inr ⟨h1, by rw [md_frI fm (by decide)]; exact h2, d, c1, m1, h3, h4, h5, h6.tr (ME.of fm (by decide)), h7.tr (fun y _ => ⟨md_frA fm (by decide) _, md_frA fm (by decide) _, fun i _ => md_frL fm (by decide) _⟩), fun u R hu => ?_⟩
      obtain ⟨bs, p, x1, x2, x3, x4, x5, x6⟩ := h8 u R hu
      exact ⟨bs, p, x1, x2, x3, by rw [md_frA fm (by decide)]; exact x4, by rw [md_frA fm (by decide)]; exact x5, fun x hx => by rw [md_frA fm (by decide)]; exact x6 x hx⟩
/-- a throw from outside -/
theorem use6 {C : Nat × Nat} {c : cd_S} {b : cd_B} (hC : BC C) (h : Bd C c b) : ∃ b', cd_use b 1 6 = some b' ∧ Bd (C.1 - 1, C.2 - 6) c b' ∧ ble b' b := by
  obtain ⟨r1, r2⟩ := h.room hC
  refine ⟨(b.1 - 1, b.2 - 6), if_pos ⟨by omega, by omega⟩, ⟨h.1, ?_, ?_⟩, Nat.sub_le _ _, Nat.sub_le _ _⟩
  · have := h.2.1; dsimp only; omega
  · have := h.2.2; dsimp only; omega
theorem RB.bd {n t : Nat} {C C' : Nat × Nat} {c : cd_S} {m : md_S} {b b' : cd_B} (h : RB n C c m b t) (hB : Bd C' c b') : RB n C' c m b' t := by
  obtain ⟨h1, h2, h3, -, h5⟩ := h
  exact ⟨h1, h2, h3, hB, h5⟩
def rcL : List Nat := 47 :: 48 :: 51 :: 160 :: 161 :: 162 :: 163 :: mcL
def rmL : List Nat := 0 :: 86 :: 17 :: 18 :: 19 :: mmL
theorem run_ok {n t : Nat} {C : Nat × Nat} {c : cd_S} {m : md_S} {b : cd_B} {a1 a2 a3 : Int32} {rw : Bool} (hC : BC C) (hn : 60000000 ≤ n) (h : RB n C c m b t) :
    (∃ k b', (k = 1 ∨ k = 2) ∧ f_X11_run n c b a1 a2 a3 (rI rw) = some (Sum.inr (k, c, b')) ∧ f_X12_run n m a1 a2 a3 (rI rw) = some (0, mSI m 0 (nI k)) ∧ RB n (C.1 - 1, C.2 - 6) c (mSI m 0 (nI k)) b' t ∧ ble b' b) ∨
    (∃ v c' b' m', f_X11_run n c b a1 a2 a3 (rI rw) = some (Sum.inl (v, c', b')) ∧ f_X12_run n m a1 a2 a3 (rI rw) = some (v, m') ∧ mI m' 0 = 0 ∧ RB n C c' m' b' t ∧ ble b' b ∧ (cI c' 51 0 = 1 ∧ mI m' 86 = 1 ∧ RT c' m') ∧ cd_fr rcL mcR c c' ∧ md_fr rmL m m' ∧ cI c 362 0 = 1 ∧ RK c c' ∧ KR c c') := by
  have hh := h
  obtain ⟨⟨t1, t2, t3, t4⟩, ht, hK, hB, hN, hA, ⟨hf1, hf2⟩, hp⟩ := h
  obtain ⟨b6, u1, u2, u3⟩ := use6 hC hB
  have j0 : ∀ (l : Int32) (k : Nat), k = 1 ∨ k = 2 → f_X12_run_J74 n m a1 a2 a3 l (nI k) = some (0, mSI m 0 (nI k)) := fun l k hk => by
    unfold f_X12_run_J74
    rw [bs_some, mI_SIe, if_neg (by rcases hk with rfl | rfl <;> decide)]
  have fin : ∀ k, k = 1 ∨ k = 2 → f_X11_run n c b a1 a2 a3 (rI rw) = some (Sum.inr (k, c, b6)) → f_X12_run n m a1 a2 a3 (rI rw) = some (0, mSI m 0 (nI k)) → ∃ k b', (k = 1 ∨ k = 2) ∧ f_X11_run n c b a1 a2 a3 (rI rw) = some (Sum.inr (k, c, b')) ∧ f_X12_run n m a1 a2 a3 (rI rw) = some (0, mSI m 0 (nI k)) ∧ RB n (C.1 - 1, C.2 - 6) c (mSI m 0 (nI k)) b' t ∧ ble b' b := fun k hk e1 e2 =>
    ⟨k, b6, hk, e1, e2, (hh.s0 (nI k)).bd u2, u3⟩
  rcases hp with ⟨p1, p2⟩ | ⟨p1, p2, d, hd⟩
  · left
    refine fin 1 (Or.inl rfl) ?_ ?_
    · unfold f_X11_run
      refine c_ck ?_ u3.1 u3.2
      rw [if_pos p1, u1, bs_some]
    · unfold f_X12_run f_X12_run_J49 f_X12_run_J50
      rw [if_pos p2, if_pos p2]
      exact j0 _ 1 (Or.inl rfl)
  have nc : ¬ cI c 362 0 = 0 := by rw [p1]; decide
  have nm : ¬ mI m 5 = 0 := by rw [p2]; decide
  have j2 : f_X12_run_J49 n m a1 a2 a3 (rI rw) = some (0, mSI m 0 (nI 2)) := by
    unfold f_X12_run_J49 f_X12_run_J50
    rw [if_neg nm, if_pos rfl]
    exact j0 _ 2 (Or.inr rfl)
  have j37 : f_X11_run_J37 n c b = some (Sum.inr (2, c, b6)) := by
    unfold f_X11_run_J37
    rw [u1, bs_some]
  have j73 : f_X11_run_J73 n c b = some (Sum.inr (2, c, b6)) := by
    unfold f_X11_run_J73
    rw [u1, bs_some]
  rcases isu2 (n := n) (a := a1) p1 p2 hd with ⟨u, rfl, w1, w2, e1, e2⟩ | ⟨e1, e2⟩
  rotate_left
  · left
    refine fin 2 (Or.inr rfl) ?_ ?_
    · unfold f_X11_run
      refine c_ck ?_ u3.1 u3.2
      rw [if_neg nc, e1, bs_some]
      dsimp only
      rw [if_pos rfl]
      exact j37
    · unfold f_X12_run
      rw [if_neg nm, e2, bs_some]
      dsimp only
      rw [if_pos rfl]
      exact j2
  -- the unit's sort and parameters
  obtain ⟨c1, m1, D0, hP, hcod, hsc⟩ := hd.pg2 (show 100 ≤ n by omega)
  have h35 : mN m 35 = mN m1 35 := by
    have := (hP.2.2.2.1 35 (by decide)).1
    rw [mN, mN, this]
  have hu1 : u < mN m1 35 := by omega
  have a36 : cI c 289 u = mA m 36 u ∧ cI c 294 u = mA m 39 u ∧ mA m 36 u = mA m1 36 u := by
    obtain ⟨⟨⟨-, -, -, -, ⟨-, hug, -⟩⟩, -⟩, hce, -, hme, -, -⟩ := hP
    obtain ⟨x1, x2, -⟩ := hug u hu1
    rw [(hce 289 (by decide)).1, (hce 294 (by decide)).1, (hme 36 (by decide)).2.2.1, (hme 39 (by decide)).2.2.1]
    exact ⟨x1, x2, rfl⟩
  have cls : f_X11_run n c b (nI u) a2 a3 (rI rw) = cd_ck (fun (q : ((Int32 × cd_S × cd_B) ⊕ (Nat × cd_S × cd_B))) => Sum.elim (fun (p : (Int32 × cd_S × cd_B)) => p.2.2) (fun (t : Nat × cd_S × cd_B) => t.2.2) q) b (if a3 < (1 : Int32) then (f_X11_run_J37 n c b) else (if a3 ≤ (4000 : Int32) then (if mA m 36 u = 0 then (if mA m 39 u = 0 then (Option.bind (f_X1_prepare n c b u a2 a3 (rI rw)) fun p5 => cd_ck (fun (q : ((Int32 × cd_S × cd_B) ⊕ (Nat × cd_S × cd_B))) => Sum.elim (fun (p : (Int32 × cd_S × cd_B)) => p.2.2) (fun (t : Nat × cd_S × cd_B) => t.2.2) q) (p5.2.2) <| Option.bind (f_X1_goOn n p5.2.1 (p5.2.2) ) fun p7 => cd_ck (fun (q : ((Int32 × cd_S × cd_B) ⊕ (Nat × cd_S × cd_B))) => Sum.elim (fun (p : (Int32 × cd_S × cd_B)) => p.2.2) (fun (t : Nat × cd_S × cd_B) => t.2.2) q) (p7.2.2) <| some (Sum.inl (p7.1, p7.2.1, p7.2.2))) else (f_X11_run_J73 n c b)) else (f_X11_run_J73 n c b)) else (f_X11_run_J37 n c b))) := by
    unfold f_X11_run
    rw [if_neg nc, e1, bs_some]
    dsimp only
    rw [if_neg ne10, c_unitAt w2, bs_some]
    dsimp only
    rw [a36.1, a36.2.1]
  have mdl : f_X12_run n m (nI u) a2 a3 (rI rw) = if mA m 36 u = 0 then (if mA m 39 u = 0 then (Option.bind (f_X12_in n m ((a3.toInt64)) (1 : Int64) (4000 : Int64)) fun p36 => if p36.1 = 0 then (f_X12_run_J49 n p36.2 (nI u) a2 a3 (rI rw)) else (f_X12_run_J50 n p36.2 (nI u) a2 a3 (rI rw) 1)) else (f_X12_run_J49 n m (nI u) a2 a3 (rI rw))) else (f_X12_run_J49 n m (nI u) a2 a3 (rI rw)) := by
    unfold f_X12_run
    rw [if_neg nm, e2, bs_some]
    dsimp only
    rw [if_neg ne10, m_ld36 w2, bs_some]
    by_cases q : mA m 36 u = 0
    · rw [if_pos q, if_pos q, m_ld39 w2, bs_some]
    · rw [if_neg q, if_neg q]
  by_cases q36 : mA m 36 u = 0
  rotate_left
  · left
    refine fin 2 (Or.inr rfl) ?_ ?_
    · rw [cls]
      refine c_ck ?_ u3.1 u3.2
      rw [if_neg q36, j37, j73]
      by_cases z1 : a3 < 1
      · rw [if_pos z1]
      · rw [if_neg z1]
        by_cases z2 : a3 ≤ 4000
        · rw [if_pos z2]
        · rw [if_neg z2]
    · rw [mdl, if_neg q36]
      exact j2
  by_cases q39 : mA m 39 u = 0
  rotate_left
  · left
    refine fin 2 (Or.inr rfl) ?_ ?_
    · rw [cls]
      refine c_ck ?_ u3.1 u3.2
      rw [if_pos q36, if_neg q39, j37, j73]
      by_cases z1 : a3 < 1
      · rw [if_pos z1]
      · rw [if_neg z1]
        by_cases z2 : a3 ≤ 4000
        · rw [if_pos z2]
        · rw [if_neg z2]
    · rw [mdl, if_pos q36, if_neg q39]
      exact j2
  rw [if_pos q36, if_pos q39] at cls mdl
  rcases stp4000 n m a3 with ⟨x, rfl, x1, x2, z1, z2, z3⟩ | ⟨z1, z3⟩
  rotate_left
  · left
    refine fin 2 (Or.inr rfl) ?_ ?_
    · rw [cls]
      refine c_ck ?_ u3.1 u3.2
      rw [j37]
      rcases z1 with z1 | ⟨z1, z2⟩
      · rw [if_pos z1]
      · rw [if_neg z1, if_neg z2]
    · rw [mdl, z3, bs_some]
      dsimp only
      rw [if_pos rfl]
      exact j2
  right
  obtain ⟨cp, bp, v, c', b', m', D, g1, g2, g3, g4, g5, g6, g7, g8, g9, g10, g11⟩ := run_core (a2 := a2) (rw := rw) hn hC hP hB hu1 (a36.2.2 ▸ q36) x1 x2
  have hP8 := g8
  obtain ⟨⟨-, k1, k2, k3, k4⟩, -⟩ := hP8
  have fc : cd_fr rcL mcR c c' := cd_fr_tr g9 k1 (fun k hk => ⟨nin (by decide) hk, nin (by decide) hk⟩) (fun k hk => ⟨by simp, hk⟩)
  have fm0 : md_fr [0, 86] m D.mS := by rw [g11]; exact mK_fr m
  have fm : md_fr rmL m m' := md_fr_tr fm0 k2 (fun k hk => ⟨nin (by decide) hk, nin (by decide) hk⟩)
  have hPL : PLN n c' m' d := g8.back hcod hsc fc fm (by decide) (by decide) (by decide)
  have e0 : mI D.mS 0 = 0 := by rw [g11]; exact (mI_SIo (by decide)).trans mI_SIe
  have e86 : mI D.mS 86 = 1 := by rw [g11]; exact mI_SIe
  have hKR : KR c c' := (KR.of g9 (by decide) (by decide) (by decide) (by decide)).tr k3
  have hK4 : K4 m m' := (K4.of fm0 (by decide) (by decide) (by decide)).tr k4
  refine ⟨v, c', b', m', ?_, ?_, ?_, ⟨⟨t1, ?_, ?_, fun i hi => ?_⟩, ht, fun i hi => ?_, g7, fun l hl => ?_, hA.k4 hKR hK4 ?_ ?_ ?_, ⟨?_, ?_⟩, Or.inr ⟨?_, ?_, d, hPL⟩⟩, g4.tr g3, ⟨?_, ?_, g6⟩, fc, fm, p1, (fun y hy => ?_), hKR⟩
  · rw [cls, if_neg z1, if_pos z2, g1]
    refine c_ck ?_ (g4.tr g3).1 (g4.tr g3).2
    rw [bs_some]
    refine c_ck ?_ g4.1 g4.2
    dsimp only
    rw [g2, bs_some]
    exact c_ck rfl (Nat.le_refl _) (Nat.le_refl _)
  · rw [mdl, z3, bs_some]
    dsimp only
    rw [if_neg ne10]
    unfold f_X12_run_J50
    rw [if_neg nm, if_neg ne10]
    exact g5
  · rw [md_frI k2 (by decide)]; exact e0
  · rw [cd_frI fc (by decide) (by decide)]; exact t2
  · rw [md_frI fm (by decide)]; exact t3
  · rw [md_frA fm (by decide), cd_frA fc (by decide) (by decide)]; exact t4 i hi
  · rw [cd_frL fc (by decide) (by decide)]; exact hK i hi
  · rw [cd_frA fc (by decide) (by decide)]; exact hN l hl
  · exact cd_frI fc (by decide) (by decide) 0
  · exact md_frI fm (by decide)
  · exact md_frJ fm (by decide)
  · rw [cd_frI fc (by decide) (by decide), md_frI fm (by decide)]; exact hf1
  · rw [cd_frI fc (by decide) (by decide), md_frI fm (by decide)]; exact hf2
  · rw [cd_frI fc (by decide) (by decide)]; exact p1
  · rw [md_frI fm (by decide)]; exact p2
  · rw [cd_frI k1 (by decide) (by decide)]; exact g10
  · rw [md_frI k2 (by decide)]; exact e86
  · obtain ⟨r1, r2, r3, r4⟩ := hP.2.2.1 y hy
    obtain ⟨w1, w2, w3, w4⟩ := g8.2.2.1 y hy
    exact ⟨w1.trans r1.symm, w2.trans r2.symm, w3.trans r3.symm, fun i => (w4 i).trans (r4 i).symm⟩
