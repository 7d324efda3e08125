/-! what the class found stays over a run -/
theorem HM.rk {c c' : cd_S} {g d l r : Nat} {x : Int32} (h : HM c g d l r x) (hg : g ≤ 8) (hl : l ≤ 12) (a98 : ∀ i, cAr c' 98 0 i = cAr c 98 0 i) (a99 : ∀ i, cAr c' 99 0 i = cAr c 99 0 i) (a100 : ∀ i, cAr c' 100 0 i = cAr c 100 0 i) (hr : RK c c') (hs : cI c' 162 r = cI c 162 r ∧ cI c' 163 r = cI c 163 r ∧ cJ c' 160 r = cJ c 160 r ∧ ∀ i, cLr c' 161 r i = cLr c 161 r i) : HM c' g d l r x := by
  obtain ⟨s1, s2, s3, s4⟩ := hs
  have hh : ∀ o z, o < 20 → z ≤ 8 → (HAS c' o z r ↔ HAS c o z r) := fun o z ho hz => by
    unfold HAS
    constructor
    · rintro ⟨y, h1, h2, h3⟩
      obtain ⟨e1, e2, e3, e4⟩ := hr (8 + (8 * o + y)) (by omega)
      refine ⟨y, h1, by rw [← e3, ← s3]; exact h2, ?_⟩
      unfold COV at h3 ⊢
      simp only [e1, e2, e4, s1, s4] at h3
      exact h3
    · rintro ⟨y, h1, h2, h3⟩
      obtain ⟨e1, e2, e3, e4⟩ := hr (8 + (8 * o + y)) (by omega)
      refine ⟨y, h1, by rw [e3, s3]; exact h2, ?_⟩
      unfold COV at h3 ⊢
      simp only [e1, e2, e4, s1, s4]
      exact h3
  have hG : ∀ i, i < 8 → (GH c' r i ↔ GH c r i) := fun i hi => by
    unfold GH
    rw [a98]
    constructor
    · rintro ⟨z, h1, h2, h3⟩
      exact ⟨z, h1, h2, (hh i z (by omega) h2).mp h3⟩
    · rintro ⟨z, h1, h2, h3⟩
      exact ⟨z, h1, h2, (hh i z (by omega) h2).mpr h3⟩
  have hL : ∀ i, i < 12 → (LH c' r i ↔ LH c r i) := fun i hi => by
    unfold LH
    rw [a99]
    constructor
    · rintro ⟨z, h1, h2, h3⟩
      exact ⟨z, h1, h2, (hh (8 + i) z (by omega) h2).mp h3⟩
    · rintro ⟨z, h1, h2, h3⟩
      exact ⟨z, h1, h2, (hh (8 + i) z (by omega) h2).mpr h3⟩
  have hD : ∀ i, (DH c' g r i ↔ DH c g r i) := fun i => by
    unfold DH
    rw [a100]
    constructor
    · rintro ⟨z, h1, h2, h3⟩
      exact ⟨z, h1, h2, (hG z (by omega)).mp h3⟩
    · rintro ⟨z, h1, h2, h3⟩
      exact ⟨z, h1, h2, (hG z (by omega)).mpr h3⟩
  unfold HM MK at h ⊢
  intro i hi
  rw [h i hi]
  dsimp only
  rw [hD i]
  constructor
  · rintro ⟨h1, h2 | ⟨h2, h3, h4⟩⟩
    · exact ⟨h1, Or.inl h2⟩
    · exact ⟨h1, Or.inr ⟨h2, h3, (hL (i - 8) (by omega)).mpr h4⟩⟩
  · rintro ⟨h1, h2 | ⟨h2, h3, h4⟩⟩
    · exact ⟨h1, Or.inl h2⟩
    · exact ⟨h1, Or.inr ⟨h2, h3, (hL (i - 8) (by omega)).mp h4⟩⟩
/-- where rights and askings are the same, and the plan, what was found stays -/
theorem SUR.keep {n t t' : Nat} {C C' : Nat × Nat} {c c' : cd_S} {m m' : md_S} {b b' : cd_B} {F R G : List Nat} (hn : 100 ≤ n) (h : SUR n c m) (hA : RB n C c m b t) (hB : RB n C' c' m' b' t') (fc : cd_fr F R c c') (fm : md_fr G m m') (e260 : cI c' 260 0 = cI c 260 0) (e363 : cI c' 363 0 = cI c 363 0) (hF : ∀ f, f ∈ [98, 99, 100, 106, 107, 108, 257, 258, 362] → f ∉ F) (hG : ∀ f, f ∈ plMF → f ∉ G) (hr : RK c c') (h195 : cI c' 162 195 = cI c 162 195 ∧ cI c' 163 195 = cI c 163 195 ∧ cJ c' 160 195 = cJ c 160 195 ∧ ∀ i, cLr c' 161 195 i = cLr c 161 195 i) : SUR n c' m' := by
  have e362 : cI c' 362 0 = cI c 362 0 := cd_frI fc (hF 362 (by decide)) (by decide) 0
  rcases h with h | ⟨h1, ⟨h2, h362⟩, x, h3, h4⟩
  · exact Or.inl (e260.trans h)
  · refine Or.inr ⟨e260.trans h1, ⟨e363.trans h2, e362.trans h362⟩, x, ?_, ?_⟩
    · obtain ⟨-, -, -, -, -, aA, -, pA⟩ := hA
      obtain ⟨-, -, -, -, -, aB', -, pB⟩ := hB
      rcases aA with ⟨z, -⟩ | ⟨-, -, r1, r2⟩
      · exact absurd (h2.symm.trans z) (by decide)
      rcases aB' with ⟨z, -⟩ | ⟨-, -, r1', r2'⟩
      · exact absurd ((e363.trans h2).symm.trans z) (by decide)
      rcases pA with ⟨z, -⟩ | ⟨-, -, d, hd⟩
      · exact absurd (h362.symm.trans z) (by decide)
      rcases pB with ⟨z, -⟩ | ⟨-, -, d', hd'⟩
      · exact absurd ((e362.trans h362).symm.trans z) (by decide)
      obtain ⟨-, -, -, -, ⟨g, l, z, hP, hD⟩, -⟩ := hd.v
      obtain ⟨-, -, -, -, ⟨g', l', z', hP', hD'⟩, -⟩ := hd'.v
      have eg : g' = g := (nI_eq (by have := hP'.1; omega) (by have := hP.1; omega)).mp (hP'.2.2.2.1.symm.trans ((cd_frI fc (hF 106 (by decide)) (by decide) 0).trans hP.2.2.2.1))
      have el : l' = l := (nI_eq (by have := hP'.2.2.1; omega) (by have := hP.2.2.1; omega)).mp (hP'.2.2.2.2.2.1.symm.trans ((cd_frI fc (hF 107 (by decide)) (by decide) 0).trans hP.2.2.2.2.2.1))
      have ez : z' = z := (nI_eq (by have := hD'.1; omega) (by have := hD.1; omega)).mp (hD'.2.1.symm.trans ((cd_frI fc (hF 108 (by decide)) (by decide) 0).trans hD.2.1))
      rw [eg, el] at hP'
      rw [ez] at hD'
      obtain ⟨y, y1, y2⟩ := holders_c (n := n) hn hP.pol hD r1 (by omega) r2
      have ey : y = x := congrArg Prod.fst (Option.some.inj (y1.symm.trans h3))
      rw [ey] at y2
      obtain ⟨w, w1, w2⟩ := holders_c (n := n) hn hP'.pol hD' r1' (by omega) r2'
      rw [HM.eq w2 (y2.rk hP.1 hP.2.2.1 (fun i => cd_frA fc (hF 98 (by decide)) (by decide) 0 i) (fun i => cd_frA fc (hF 99 (by decide)) (by decide) 0 i) (fun i => cd_frA fc (hF 100 (by decide)) (by decide) 0 i) hr h195)] at w1
      exact w1
    · have eV : VC m' c' = VC m c := by
        unfold VC VV
        rw [mN_fr fm (hG 35 (by decide)), cd_frI fc (hF 258 (by decide)) (by decide)]
        funext u
        rw [cd_frA fc (hF 257 (by decide)) (by decide)]
      rw [eV]
      exact h4.me (ME.of fm hG)
/-- a run's relation stays -/
theorem RFl.fr {c c' : cd_S} {m m' : md_S} {F R G : List Nat} (h : RFl c m) (fc : cd_fr F R c c') (fm : md_fr G m m') (hF : ∀ f, f ∈ [3, 40, 41, 43, 44, 45, 46, 51, 233, 234, 235, 236] → f ∉ F) (hR : ∀ r, r ∈ [2, 3, 4, 6, 8] → r ∉ R) (hG : ∀ f, f ∈ [86, 88, 89, 91, 92, 93, 94, 95, 105, 106, 107, 108, 109, 110, 130, 131, 132] → f ∉ G) : RFl c' m' := by
  have I : ∀ f, f ∈ [3, 40, 41, 43, 44, 45, 46, 51, 233, 234, 235, 236] → f ≠ 193 → cI c' f 0 = cI c f 0 := fun f h1 h2 => cd_frI fc (hF f h1) h2 0
  have J : ∀ f, f ∈ [86, 88, 89, 91, 92, 93, 94, 95, 105, 106, 107, 108, 109, 110, 130, 131, 132] → mI m' f = mI m f := fun f h1 => md_frI fm (hG f h1)
  rcases h with ⟨h1, h2⟩ | ⟨h1, h2, ⟨a1, a2, a3, a4, a5⟩, ⟨K, k1, k2, k3, k4⟩, ⟨T, t1, t2, t3⟩, ⟨E, v1, v2, v3, ⟨z, z1, z2, z3⟩, v5⟩, ⟨Ls, l1, l2⟩⟩
  · exact Or.inl ⟨by rw [I 51 (by decide) (by decide)]; exact h1, by rw [J 86 (by decide)]; exact h2⟩
  · refine Or.inr ⟨by rw [I 51 (by decide) (by decide)]; exact h1, by rw [J 86 (by decide)]; exact h2, ⟨?_, ?_, ?_, ?_, ?_⟩, ⟨K, k1, by rw [I 40 (by decide) (by decide)]; exact k2, by rw [J 105 (by decide)]; exact k3, fun t ht => ?_⟩, ⟨T, t1, by rw [cd_frz fc (hR 6 (by decide))]; exact t2, by rw [J 95 (by decide)]; exact t3⟩, ⟨E, v1.of (cd_frz fc (hR 8 (by decide))) (cd_frC fc (hR 8 (by decide))), by rw [rsz_e (cd_frz fc (hR 8 (by decide)))]; exact v2, v3, ⟨z, z1, by rw [J 91 (by decide)]; exact z2, z3⟩, fun i hi => by rw [cd_frF fc (hR 8 (by decide)), md_frA fm (hG 92 (by decide))]; exact v5 i hi⟩, ⟨Ls, l1.fr fc fm (hF 3 (by decide)) ⟨hR 2 (by decide), hR 3 (by decide), hR 4 (by decide)⟩ ⟨hG 130 (by decide), hG 131 (by decide), hG 132 (by decide)⟩, l2⟩⟩
    · rw [I 44 (by decide) (by decide), J 88 (by decide)]; exact a1
    · rw [I 41 (by decide) (by decide), J 89 (by decide)]; exact a2
    · rw [I 43 (by decide) (by decide), J 91 (by decide)]; exact a3
    · rw [I 45 (by decide) (by decide), J 93 (by decide)]; exact a4
    · rw [I 46 (by decide) (by decide), J 94 (by decide)]; exact a5
    · have q := k4 t ht
      unfold THT at q ⊢
      rw [cd_frI fc (hF 234 (by decide)) (by decide), cd_frI fc (hF 233 (by decide)) (by decide), cd_frI fc (hF 235 (by decide)) (by decide), cd_frJ fc (hF 236 (by decide)) (by decide), md_frA fm (hG 106 (by decide)), md_frA fm (hG 107 (by decide)), md_frA fm (hG 108 (by decide)), md_frA fm (hG 109 (by decide)), md_frA fm (hG 110 (by decide))]
      exact q
theorem run_all {n t : Nat} {C : Nat × Nat} {c : cd_S} {m : md_S} {b : cd_B} {a1 a2 a3 : Int32} {rw : Bool} (hC : BC C) (hn : 60000000 ≤ n) (h : RB n C c m b t) (hF : RFl c m) (hs : SUR n c m) :
    (∃ k b', (k = 1 ∨ k = 2) ∧ f_X11_run n c b a1 a2 a3 (rI rw) = some (Sum.inr (k, c, b')) ∧ f_X12_run n m a1 a2 a3 (rI rw) = some (0, mSI m 0 (nI k)) ∧ RB n (C.1 - 1, C.2 - 6) c (mSI m 0 (nI k)) b' t ∧ RFl c (mSI m 0 (nI k)) ∧ SUR n c (mSI m 0 (nI k)) ∧ ble b' b) ∨
    (∃ v c' b' m', f_X11_run n c b a1 a2 a3 (rI rw) = some (Sum.inl (v, c', b')) ∧ f_X12_run n m a1 a2 a3 (rI rw) = some (v, m') ∧ mI m' 0 = 0 ∧ RB n C c' m' b' t ∧ RFl c' m' ∧ SUR n c' m' ∧ ble b' b) := by
  rcases run_ok (a1 := a1) (a2 := a2) (a3 := a3) (rw := rw) hC hn h with ⟨k, b', e1, e2, e3, e4, e5⟩ | ⟨v, c', b', m', e1, e2, e3, e4, e5, ⟨e6, e7, e8⟩, e9, e10, e11, e12, e13⟩
  · left
    have fm : md_fr [0] m (mSI m 0 (nI k)) := md_fr_SI (md_fr_refl _ _) (by simp) _
    exact ⟨k, b', e1, e2, e3, e4, hF.fr (cd_fr_refl c [] []) fm (by simp) (by simp) (by decide), hs.mfr fm (by decide), e5⟩
  · right
    refine ⟨v, c', b', m', e1, e2, e3, e4, Or.inr ⟨e6, e7, e8⟩, hs.keep (by omega) h e4 e9 e10 (cd_frI e9 (by decide) (by decide) 0) (cd_frI e9 (by decide) (by decide) 0) (by decide) (by decide) e12 (e13 195 (by decide)), e5⟩
