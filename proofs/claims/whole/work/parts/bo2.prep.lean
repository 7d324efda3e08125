/-! a run is prepared, class and model, up to the first frame -/
theorem c_fillL {n : Nat} {c : cd_S} : ∀ (e j i : Nat) (s : cd_S), i + e = 256 → e < j → cd_fr [3] [] c s → (∀ y, y < i → cAr s 3 0 y = -1) → ∃ s', f_J7_fill_3_L5 n (-1) 256 j s (nI i) = some (s', nI 256) ∧ cd_fr [3] [] c s' ∧ ∀ y, y < 256 → cAr s' 3 0 y = -1 := by
  intro e
  induction e with
  | zero =>
    intro j i s hi hj hf h
    obtain ⟨j, rfl⟩ : ∃ q, j = q + 1 := ⟨j - 1, by omega⟩
    obtain rfl : i = 256 := by omega
    exact ⟨s, by rw [u_J7_fill_3_L5, if_pos (by decide)], hf, h⟩
  | succ e ih =>
    intro j i s hi hj hf h
    obtain ⟨j, rfl⟩ : ∃ q, j = q + 1 := ⟨j - 1, by omega⟩
    obtain ⟨s', g1, g2, g3⟩ := ih j (i + 1) (cSA s 3 0 i (-1)) (by omega) (by omega) (cd_fr_SA hf (by simp) _ _ _) (fun y hy => by
      by_cases q : y = i
      · rw [q, cA_SAe]
      · rw [cA_SAi q]; exact h y (by omega))
    refine ⟨s', ?_, g2, g3⟩
    rw [u_J7_fill_3_L5, if_neg (show ¬ (256 : Int32) ≤ nI i from fun z => absurd ((nI_leI (a := 256) (by decide) (by omega)).mp z) (by omega)), c_st3 (by omega), bs_some, nI_1]
    exact g1
def lcP : List Nat := [3, 40, 41, 42, 43, 44, 45, 46, 49, 50, 231, 232, 233, 234, 235, 236]
def lrP : List Nat := [2, 3, 4, 5, 6, 7, 8, 9]
def rI (r : Bool) : Int32 := if r = true then 1 else 0
/-- what of the class's state is set for good -/
def cK (c : cd_S) (a2 : Int32) : cd_S := cSI (cSI (cSI c 47 0 a2) 48 0 a2) 51 0 1
theorem c_prepA {n u : Nat} {C : Nat × Nat} {c : cd_S} {b : cd_B} {a2 a3 : Int32} {rw : Bool} (hn : 300 ≤ n) (hB : Bd C c b) : ∃ c', f_X1_prepare n c b u a2 a3 (rI rw) = cd_ck (fun (q : (Int32 × cd_S × cd_B)) => q.2.2) b (Option.bind (f_X1_makeObject n c' b 0 ((cI c' 290 u))) fun p23 => cd_ck (fun (q : (Int32 × cd_S × cd_B)) => q.2.2) (p23.2.2) <| Option.bind (cd_dp p23.2.1 50 0) fun u25 => Option.bind (f_X7_call n p23.2.1 u25 u (0 : Int32) (0 : Int32) ((-1) : Int32)) fun p26 => Option.bind (cd_dp p26.2 50 0) fun u27 => Option.bind (f_X1_begin n p26.2 (p23.2.2) u27) fun p28 => cd_ck (fun (q : (Int32 × cd_S × cd_B)) => q.2.2) (p28.2.2) <| some (((0 : Int32), p28.2.1, p28.2.2))) ∧ Bd C c' b ∧ cd_fr lcP lrP (cK c a2) c' ∧ (∀ r, r ∈ lrP → rsz c' r = 0) ∧ (∀ y, y < 256 → cAr c' 3 0 y = -1) ∧ (cI c' 40 0 = 1 ∧ cI c' 41 0 = 0 ∧ cI c' 42 0 = a3 ∧ cI c' 43 0 = 0 ∧ cI c' 44 0 = 0 ∧ cI c' 45 0 = 0 ∧ cI c' 46 0 = 0 ∧ cI c' 49 0 = rI rw ∧ cP c' 50 0 = 1) ∧ cI c' 231 0 = 0 ∧ cI c' 232 0 = 0 ∧ cI c' 233 0 = 0 ∧ cI c' 234 0 = 0 ∧ cI c' 235 0 = -1 ∧ cJ c' 236 0 = 4294967296 := by
  have hB1 := hB.cut 2
  have hB2 := hB1.cut 3
  have hB3 := hB2.cut 4
  obtain ⟨c3, ec3⟩ : ∃ z, z = cSI (cSI (cSI c 193 2 0) 193 3 0) 193 4 0 := ⟨_, rfl⟩
  rw [← ec3] at hB3
  obtain ⟨cf, f1, f2, f3⟩ := c_fillL (n := n) (c := c3) 256 n 0 c3 (by omega) (by omega) (cd_fr_refl _ _ _) (fun y hy => by omega)
  have hBf : Bd C cf b := hB3.fr f2
  have hclr : f_X0_clear n c = some (0, cf) := by
    unfold f_X0_clear f_J7_fill_3
    rw [c_cut0 (hB.1 2 (by omega)), bs_some]
    dsimp only
    rw [c_cut0 (hB1.1 3 (by omega)), bs_some]
    dsimp only
    rw [c_cut0 (hB2.1 4 (by omega)), bs_some]
    dsimp only
    rw [← ec3, show f_J7_fill_3_L5 n (-1) 256 n c3 0 = _ from f1, bs_some, bs_some]
  have hB5 := hBf.cut 5
  have hB6 := hB5.cut 6
  have hB7 := hB6.cut 7
  have hB8 := hB7.cut 8
  obtain ⟨c8, ec8⟩ : ∃ z, z = cSI (cSI (cSI (cSI cf 193 5 0) 193 6 0) 193 7 0) 193 8 0 := ⟨_, rfl⟩
  rw [← ec8] at hB8
  -- up to 46
  obtain ⟨ca, eca⟩ : ∃ z, z = cSI (cSI (cSI (cSI (cSI (cSI (cSI c8 40 0 1) 41 0 0) 42 0 a3) 43 0 0) 44 0 0) 45 0 0) 46 0 0 := ⟨_, rfl⟩
  have hBa : Bd C ca b := by rw [eca]; exact ((((((hB8.SI (by decide) _ _).SI (by decide) _ _).SI (by decide) _ _).SI (by decide) _ _).SI (by decide) _ _).SI (by decide) _ _).SI (by decide) _ _
  have fr3 : cd_fr lcP lrP c c3 := by
    rw [ec3]
    exact ⟨fun g hg h8 => ⟨by funext j; show c.1 g j = if g = 193 ∧ j = 4 then 0 else if g = 193 ∧ j = 3 then 0 else if g = 193 ∧ j = 2 then 0 else c.1 g j; rw [if_neg (fun z => h8 z.1), if_neg (fun z => h8 z.1), if_neg (fun z => h8 z.1)], rfl, rfl, rfl, rfl⟩, fun r hr => ⟨by
      have h2 : r ≠ 2 := fun z => hr (by rw [z]; decide)
      have h3 : r ≠ 3 := fun z => hr (by rw [z]; decide)
      have h4 : r ≠ 4 := fun z => hr (by rw [z]; decide)
      show c.1 193 r = if 193 = 193 ∧ r = 4 then 0 else if 193 = 193 ∧ r = 3 then 0 else if 193 = 193 ∧ r = 2 then 0 else c.1 193 r
      rw [if_neg (fun z => h4 z.2), if_neg (fun z => h3 z.2), if_neg (fun z => h2 z.2)], rfl, rfl⟩⟩
  have frf : cd_fr lcP lrP c cf := cd_fr_tr fr3 f2 (fun k hk => ⟨hk, fun y => hk (by rw [List.mem_singleton.mp y]; decide)⟩) (fun k hk => ⟨hk, by simp⟩)
  have fr8 : cd_fr lcP lrP cf c8 := by
    rw [ec8]
    exact ⟨fun g hg h8 => ⟨by funext j; show cf.1 g j = if g = 193 ∧ j = 8 then 0 else if g = 193 ∧ j = 7 then 0 else if g = 193 ∧ j = 6 then 0 else if g = 193 ∧ j = 5 then 0 else cf.1 g j; rw [if_neg (fun z => h8 z.1), if_neg (fun z => h8 z.1), if_neg (fun z => h8 z.1), if_neg (fun z => h8 z.1)], rfl, rfl, rfl, rfl⟩, fun r hr => ⟨by
      have h2 : r ≠ 5 := fun z => hr (by rw [z]; decide)
      have h3 : r ≠ 6 := fun z => hr (by rw [z]; decide)
      have h4 : r ≠ 7 := fun z => hr (by rw [z]; decide)
      have h5 : r ≠ 8 := fun z => hr (by rw [z]; decide)
      show cf.1 193 r = if 193 = 193 ∧ r = 8 then 0 else if 193 = 193 ∧ r = 7 then 0 else if 193 = 193 ∧ r = 6 then 0 else if 193 = 193 ∧ r = 5 then 0 else cf.1 193 r
      rw [if_neg (fun z => h5 z.2), if_neg (fun z => h4 z.2), if_neg (fun z => h3 z.2), if_neg (fun z => h2 z.2)], rfl, rfl⟩⟩
  have fra : cd_fr lcP lrP c ca := by
    have h0 : cd_fr lcP lrP c c8 := cd_fr_tr frf fr8 (fun _ z => ⟨z, z⟩) (fun _ z => ⟨z, z⟩)
    rw [eca]
    exact cd_fr_SI (cd_fr_SI (cd_fr_SI (cd_fr_SI (cd_fr_SI (cd_fr_SI (cd_fr_SI h0 (by decide) (by decide) _ _) (by decide) (by decide) _ _) (by decide) (by decide) _ _) (by decide) (by decide) _ _) (by decide) (by decide) _ _) (by decide) (by decide) _ _) (by decide) (by decide) _ _
  -- the rest
  obtain ⟨cb, ecb⟩ : ∃ z, z = cSP (cSI (cSI (cSI (cSI ca 47 0 a2) 48 0 a2) 49 0 (rI rw)) 51 0 1) 50 0 1 := ⟨_, rfl⟩
  have hBb : Bd C cb b := by
    rw [ecb]
    exact ((((hBa.SI (by decide) _ _).SI (by decide) _ _).SI (by decide) _ _).SI (by decide) _ _).fr (L := [50]) (cd_fr_SP (cd_fr_refl _ _ _) (by simp) _ _)
  have frb : cd_fr lcP lrP (cK c a2) cb := by
    rw [ecb]
    unfold cK
    have h1 := cd_fr_b (cd_fr_b fra (f := 47) (by decide) 0 a2) (f := 48) (by decide) 0 a2
    exact cd_fr_SP (cd_fr_b (cd_fr_SI h1 (by decide) (by decide) _ _) (f := 51) (by decide) 0 1) (by decide) _ _
  obtain ⟨c', d1, d2, d3, d4, d5, d6, d7, d8, d9, d10⟩ := c_clear (n := n) (T := 0) (v := 0) (by decide) hBb
  have hdp : ∀ z : cd_S, cP z 50 0 = 1 → cd_dp z 50 0 = some 0 := fun z hz => by
    unfold cd_dp
    have : z.2.2.2.2.1 50 0 = 1 := hz
    rw [this]; rfl
  have hPb : cP cb 50 0 = 1 := by rw [ecb]; rfl
  have hP' : cP c' 50 0 = 1 := by rw [cd_frP d3.1 (by decide) (by decide)]; exact hPb
  have I : ∀ f, f ∉ [231, 232, 233, 234, 235, 236] → f ≠ 193 → cI c' f 0 = cI cb f 0 := fun f h1 h2 => cd_frI d3.1 h1 h2 0
  have hz8 : ∀ r, r ∈ [2, 3, 4, 5, 6, 7, 8] → rsz c8 r = 0 := by
    intro r hr
    have e : rsz cf r = rsz c3 r := rsz_e (cd_frz f2 (by simp))
    have e8 : cI c8 193 r = if r = 8 then 0 else if r = 7 then 0 else if r = 6 then 0 else if r = 5 then 0 else cI cf 193 r := by
      rw [ec8, cI_SI, cI_SI, cI_SI, cI_SI]
      simp
    have e3 : cI c3 193 r = if r = 4 then 0 else if r = 3 then 0 else if r = 2 then 0 else cI c 193 r := by
      rw [ec3, cI_SI, cI_SI, cI_SI]
      simp
    unfold rsz
    rw [e8, cd_frz f2 (by simp), e3]
    revert hr
    simp only [List.mem_cons, List.not_mem_nil, or_false]
    rintro (rfl | rfl | rfl | rfl | rfl | rfl | rfl) <;> rfl
  refine ⟨c', ?_, d2, cd_fr_tr frb d3.1 (fun k hk => ⟨hk, nin (by decide) hk⟩) (fun k hk => ⟨hk, fun y => hk (by rw [List.mem_singleton.mp y]; decide)⟩), fun r hr => ?_, fun y hy => ?_, ⟨?_, ?_, ?_, ?_, ?_, ?_, ?_, ?_, hP'⟩, d4, d5, d6, d7, d8, d9⟩
  · unfold f_X1_prepare
    congr 1
    rw [hclr, bs_some]
    dsimp only
    rw [c_cut0 (hBf.1 5 (by omega)), bs_some]
    dsimp only
    rw [c_cut0 (hB5.1 6 (by omega)), bs_some]
    dsimp only
    rw [c_cut0 (hB6.1 7 (by omega)), bs_some]
    dsimp only
    rw [c_cut0 (hB7.1 8 (by omega)), bs_some]
    dsimp only
    rw [← ec8, bs_some, bs_some, bs_some, bs_some, bs_some, bs_some, bs_some, bs_some, bs_some, ← eca, show md_zb (rI rw) = some (rI rw) by cases rw <;> rfl, bs_some, bs_some, bs_some, show cldR 35 (0 : Int32) = some 0 from c_ld35 (i := 0) (by decide), bs_some, bs_some, ← ecb, hdp cb hPb, bs_some, d1, bs_some]
    dsimp only
    rw [hdp c' hP', bs_some]
  · by_cases q : r = 9
    · rw [q]; exact d10
    · rw [rsz_e (cd_frz d3.1 (fun y => q (List.mem_singleton.mp y)))]
      have : rsz cb r = rsz c8 r := by
        rw [ecb, eca]; exact rsz_e rfl
      rw [this]
      exact hz8 r (by unfold lrP at hr; simp at hr ⊢; omega)
  · rw [cd_frA d3.1 (by decide) (by decide)]
    have : cAr cb 3 0 y = cAr cf 3 0 y := by rw [ecb, eca, ec8]; rfl
    rw [this]; exact f3 y hy
  · rw [I 40 (by decide) (by decide), ecb, eca]; rfl
  · rw [I 41 (by decide) (by decide), ecb, eca]; rfl
  · rw [I 42 (by decide) (by decide), ecb, eca]; rfl
  · rw [I 43 (by decide) (by decide), ecb, eca]; rfl
  · rw [I 44 (by decide) (by decide), ecb, eca]; rfl
  · rw [I 45 (by decide) (by decide), ecb, eca]; rfl
  · rw [I 46 (by decide) (by decide), ecb, eca]; rfl
  · rw [I 49 (by decide) (by decide), ecb]; rfl
def lmP : List Nat := [87, 89, 90, 91, 93, 94, 95, 98, 101, 105, 106, 107, 108, 109, 110, 111, 117, 120, 123, 127, 129, 130, 131, 132]
def mK (m : md_S) : md_S := mSI (mSI m 0 0) 86 1
theorem m_prepA {n : Nat} {m : md_S} {u a2 a3 : Int32} {rw : Bool} : ∃ m', f_X12_run_J74 n m u a2 a3 (rI rw) 0 = (Option.bind (f_X12_begin n m' (0 : Int32) u (0 : Int32)) fun p21 => Option.bind (mldA p21.2 37 u) fun v22 => Option.bind (f_X12_newObject n p21.2 v22) fun p23 => Option.bind (f_X12_setLocal n p23.2 (0 : Int32) (0 : Int32) (0 : Int32) (2 : Int32) (p23.1)) fun p24 => Option.bind (some (mSI p24.2 128 1)) fun σ25 => Option.bind (f_X12_run_L212 n a2 n σ25 a2 1) fun q31 => if (mI q31.1 129) = 0 then (Option.bind (f_X12_going n q31.1 ) fun p32 => if p32.1 ≤ 0 then (f_X12_run_J323 n p32.2 0) else (f_X12_run_J323 n p32.2 1)) else (f_X12_run_J323 n q31.1 2)) ∧ md_fr lmP (mK m) m' ∧ (mI m' 87 = rI rw ∧ mI m' 89 = 0 ∧ mI m' 90 = a3 ∧ mI m' 91 = 0 ∧ mI m' 93 = 0 ∧ mI m' 94 = 0 ∧ mI m' 95 = 0 ∧ mI m' 98 = 0 ∧ mI m' 101 = 0 ∧ mI m' 105 = 1 ∧ mI m' 127 = 0 ∧ mI m' 129 = 0) ∧ (mI m' 130 = 1 ∧ mA m' 131 0 = 1 ∧ mA m' 132 0 = 0) ∧ mA m' 106 0 = 0 ∧ mA m' 107 0 = -1 ∧ mA m' 108 0 = 0 ∧ mA m' 111 0 = 0 ∧ mA m' 117 0 = 0 ∧ mA m' 120 0 = 0 ∧ mA m' 123 0 = 0 := by
  obtain ⟨ma, ema⟩ : ∃ z, z = mSA (mSA (mSI (mSI (mSI (mSI (mSI (mSI (mSI (mSI (mSI (mSI (mSI (mSI (mK m) 87 (rI rw)) 89 0) 90 a3) 91 0) 93 0) 94 0) 95 0) 98 0) 101 0) 105 0) 129 0) 130 1) 131 0 1) 132 0 0 := ⟨_, rfl⟩
  have h105 : mI ma 105 = nI 0 := by rw [ema]; rfl
  obtain ⟨mb, b1, b2, b3, b4, b5, b6, b7, b8, b9, b10, b11⟩ := m_newThread (n := n) (K := 0) (m := ma) (by decide) h105
  obtain ⟨m', em⟩ : ∃ z, z = mSI mb 127 0 := ⟨_, rfl⟩
  have fa : md_fr lmP (mK m) ma := by
    rw [ema]
    exact md_fr_SA (md_fr_SA (md_fr_SI (md_fr_SI (md_fr_SI (md_fr_SI (md_fr_SI (md_fr_SI (md_fr_SI (md_fr_SI (md_fr_SI (md_fr_SI (md_fr_SI (md_fr_SI (md_fr_refl _ _) (by decide) _) (by decide) _) (by decide) _) (by decide) _) (by decide) _) (by decide) _) (by decide) _) (by decide) _) (by decide) _) (by decide) _) (by decide) _) (by decide) _) (by decide) _ _) (by decide) _ _
  have I : ∀ f, f ∉ [105, 106, 107, 108, 109, 110, 111, 117, 120, 123] → f ≠ 127 → mI m' f = mI ma f := fun f h1 h2 => by rw [em, mI_SIo h2, md_frI b2 h1]
  have A : ∀ f i, mA m' f i = mA mb f i := fun f i => by rw [em]; rfl
  refine ⟨m', ?_, ?_, ⟨?_, ?_, ?_, ?_, ?_, ?_, ?_, ?_, ?_, ?_, ?_, ?_⟩, ⟨?_, ?_, ?_⟩, by rw [A]; exact b5, by rw [A]; exact b6, by rw [A]; exact b7, by rw [A]; exact b8, by rw [A]; exact b9, by rw [A]; exact b10, by rw [A]; exact b11⟩
  · unfold f_X12_run_J74
    rw [bs_some, mI_SIe, if_pos rfl, bs_some, show md_zb (rI rw) = some (rI rw) by cases rw <;> rfl, bs_some, bs_some, bs_some, bs_some, bs_some, bs_some, bs_some, bs_some, bs_some, bs_some, bs_some, bs_some, bs_some, show (0 : Int32) = nI 0 from rfl, m_st131 (by decide), bs_some, m_st132 (by decide), bs_some]
    have e1 : f_X12_newThread n (mSA (mSA (mSI (mSI (mSI (mSI (mSI (mSI (mSI (mSI (mSI (mSI (mSI (mSI (mSI (mSI m 0 (nI 0)) 86 1) 87 (rI rw)) 89 (nI 0)) 90 a3) 91 (nI 0)) 93 (nI 0)) 94 (nI 0)) 95 (nI 0)) 98 (nI 0)) 101 (nI 0)) 105 (nI 0)) 129 (nI 0)) 130 1) 131 0 1) 132 0 (nI 0)) = some (nI 0, mb) := by rw [← b1, ema]; rfl
    rw [e1, bs_some]
    dsimp only
    rw [bs_some]
    rw [show mSI mb 127 (nI 0) = m' from em.symm]
  · rw [em]
    exact md_fr_SI (md_fr_tr fa b2 (fun k hk => ⟨hk, nin (by decide) hk⟩)) (by decide) _
  · rw [I 87 (by decide) (by decide), ema]; rfl
  · rw [I 89 (by decide) (by decide), ema]; rfl
  · rw [I 90 (by decide) (by decide), ema]; rfl
  · rw [I 91 (by decide) (by decide), ema]; rfl
  · rw [I 93 (by decide) (by decide), ema]; rfl
  · rw [I 94 (by decide) (by decide), ema]; rfl
  · rw [I 95 (by decide) (by decide), ema]; rfl
  · rw [I 98 (by decide) (by decide), ema]; rfl
  · rw [I 101 (by decide) (by decide), ema]; rfl
  · rw [em, mI_SIo (by decide)]; exact b4
  · rw [em, mI_SIe]
  · rw [I 129 (by decide) (by decide), ema]; rfl
  · rw [I 130 (by decide) (by decide), ema]; rfl
  · rw [A, md_frA b2 (by decide), ema]; rfl
  · rw [A, md_frA b2 (by decide), ema]; rfl
