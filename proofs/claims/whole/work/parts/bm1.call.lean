/-! a call -/
theorem REST.cut {n mx d Z K st t : Nat} {C : Nat × Nat} {c c1 : cd_S} {b : cd_B} {m m1 : md_S} {D : PD} {h : HV} {Ls : List (List Int32)} {Fs : Nat → List FR} (hr : REST n mx d Z c m c1 m1 D h Ls K st t Fs) (hB : Bd C c b) (hZ : Z < 2 ^ 31) : CUTS n d C (cSI c 44 0 2) b (mSI (mSI m 129 1) 128 0) c1 m1 D := by
  obtain ⟨⟨g1, ⟨g2, g3, g4⟩, ⟨g5, g6, g7, g8, g9, g10, g11⟩, ⟨g12, g13, g14⟩, -, ⟨g17, g18, g19⟩, -, g21, g22, g23⟩, ⟨a1, a2, a3, a4, a5, a6, a7⟩, hO⟩ := hr
  have fc : cd_fr [44] [] c (cSI c 44 0 2) := cd_fr_SI (cd_fr_refl _ _ _) (by simp) (by decide) _ _
  have fm : md_fr [128, 129] m (mSI (mSI m 129 1) 128 0) := md_fr_SI (md_fr_SI (md_fr_refl _ _) (by simp) _) (by simp) _
  obtain ⟨z, z1, z2, z3, z4, z5⟩ := g14
  obtain ⟨H, ⟨h1, h2, h3, -⟩, -⟩ := g21
  refine ⟨g1.to (SK.fr fc fm (by decide) (by simp) (by decide)), hB.SI (by decide) _ _, cI_SIe, by rw [mI_SIo (by decide), mI_SIe], mI_SIe, ⟨?_, ?_, ?_, ?_⟩, ⟨K, g2, by rw [cI_SIo (by decide)]; exact g3, by rw [md_frI fm (by decide)]; exact g4, fun x hx => ?_⟩, ⟨h.2.1.length, h2, ?_, by rw [md_frI fm (by decide)]; exact h3⟩, ⟨min z 200, ?_⟩, ⟨Ls, g17.fr fc fm (by decide) (by simp) (by decide), by omega⟩⟩
  · rw [cI_SIo (by decide), md_frI fm (by decide), g5, g6]
  · rw [cI_SIo (by decide), md_frI fm (by decide), z2, z3]
  · rw [cI_SIo (by decide), md_frI fm (by decide), g12]
  · rw [cI_SIo (by decide), md_frI fm (by decide), g13]
  · by_cases q : x = t
    · rw [q]; exact a5.fr fc fm (by decide) (by decide)
    · exact (hO x hx q).2.1.fr fc fm (by decide) (by decide)
  · rw [cI_SIo (by decide), (hB.1 6 (by omega)).1, h1]
  · refine ⟨(hB.1 8 (by omega)).of (cI_SIo (by decide)) rfl, by rw [rsz_e (cI_SIo (by decide))]; exact z4, by omega, ⟨z, by omega, by rw [md_frI fm (by decide)]; exact z3, rfl⟩, fun i hi => ?_⟩
    rw [md_frA fm (by decide)]
    exact z5 i hi
/-- GLB, where the most frames change -/
theorem GLB2.mf {n mx d Z K Km st : Nat} {L R G : List Nat} {c c' c1 : cd_S} {m m' m1 : md_S} {D : PD} {h : HV} {Ls : List (List Int32)} (hg : GLB2 n mx d Z c m c1 m1 D h Ls K Km st) (hc : cd_fr L R c c') (hm : md_fr G m m') (hL : ∀ f, f ∈ L → f = 45 ∨ f = 50 ∨ 224 ≤ f ∧ f ≤ 241) (hR : ∀ r, r ∈ R → 9 ≤ r ∧ r < 17) (hG : ∀ k, k ∈ G → k = 93 ∨ 106 ≤ k ∧ k ≤ 126) (he : cI c' 45 0 = mI m' 93) : GLB2 n mx d Z c' m' c1 m1 D h Ls K Km st := by
  obtain ⟨h1, ⟨h2, h3, h4⟩, ⟨h5, h6, h7, h8, h9, h10, h11⟩, ⟨h12, h13, h14⟩, ⟨h15, h16⟩, ⟨h17, h18⟩, h19, h20, h21, h22⟩ := hg
  have nL : ∀ f, f < 45 ∨ (45 < f ∧ f < 50) ∨ (50 < f ∧ f < 224) → f ∉ L := fun f a q => by have := hL f q; omega
  have nG : ∀ f, f < 93 ∨ (93 < f ∧ f < 106) ∨ 126 < f → f ∉ G := fun f a q => by have := hG f q; omega
  have nR : ∀ r, r < 9 → r ∉ R := fun r hr q => by have := hR r q; omega
  have cI' : ∀ f, f < 45 ∨ (45 < f ∧ f < 50) → cI c' f 0 = cI c f 0 := fun f a => cd_frI hc (nL f (by omega)) (by omega) 0
  have mI' : ∀ f, f < 93 ∨ (93 < f ∧ f < 106) ∨ 126 < f → mI m' f = mI m f := fun f a => md_frI hm (nG f a)
  have hL0 : ∀ f, f ∈ L → f ∈ mcL := fun f q => by
    have h18 : ∀ j, j < 18 → 224 + j ∈ mcL := by decide
    rcases hL f q with z | z | z
    · rw [z]; decide
    · rw [z]; decide
    · have := h18 (f - 224) (by omega)
      rw [show 224 + (f - 224) = f by omega] at this
      exact this
  have hG0 : ∀ k, k ∈ G → k ∈ mmL := fun k q => by
    have h21 : ∀ j, j < 21 → 106 + j ∈ mmL := by decide
    rcases hG k q with z | z
    · rw [z]; decide
    · have := h21 (k - 106) (by omega)
      rw [show 106 + (k - 106) = k by omega] at this
      exact this
  refine ⟨h1.to (SK.fr hc hm hL0 (fun r q => mcR_8 (by have := hR r q; omega) (hR r q).2) hG0), ⟨h2, by rw [cI' 40 (by omega)]; exact h3, by rw [mI' 105 (by omega)]; exact h4⟩, ⟨by rw [cI' 41 (by omega)]; exact h5, by rw [mI' 89 (by omega)]; exact h6, by rw [cI' 42 (by omega)]; exact h7, by rw [mI' 90 (by omega)]; exact h8, h9, h10, by rw [mI' 101 (by omega)]; exact h11⟩, ⟨he, by rw [cI' 46 (by omega), mI' 94 (by omega)]; exact h13, h14.fr hc hm (nL 43 (by omega)) (nR 8 (by omega)) ⟨nG 91 (by omega), nG 92 (by omega)⟩⟩, ⟨by rw [cI' 49 (by omega)]; exact h15, by rw [mI' 87 (by omega)]; exact h16⟩, ⟨h17.fr hc hm (nL 3 (by omega)) ⟨nR 2 (by omega), nR 3 (by omega), nR 4 (by omega)⟩ ⟨nG 130 (by omega), nG 131 (by omega), nG 132 (by omega)⟩, h18⟩, fun q => ⟨(h19 q).1.fr hc hm (nR 5 (by omega)) ⟨nG 35 (by omega), nG 36 (by omega), nG 102 (by omega), nG 103 (by omega), nG 104 (by omega)⟩, (h19 q).2⟩, h20.fr hc hm ⟨nR 6 (by omega), nR 7 (by omega)⟩ ⟨nG 95 (by omega), nG 96 (by omega), nG 97 (by omega), nG 98 (by omega), nG 99 (by omega), nG 100 (by omega)⟩, by rw [cI' 44 (by omega)]; exact h21, by rw [mI' 129 (by omega)]; exact h22⟩
theorem dp_fr {L R : List Nat} {c c' : cd_S} (h : cd_fr L R c c') {f i : Nat} (hf : f ∉ L) (h9 : f ≠ 193) : cd_dp c' f i = cd_dp c f i := by
  have := cd_frP h hf h9 i
  unfold cd_dp
  have e2 : c'.2.2.2.2.1 f i = c.2.2.2.2.1 f i := this
  rw [e2]
/-- an instruction calls -/
theorem call_nxt {n mx d Z K st t k p1 u dd s0 : Nat} {C : Nat × Nat} {c c1 c2 : cd_S} {b b2 : cd_B} {m m1 m2 : md_S} {D : PD} {h : HV} {Ls : List (List Int32)} {Fs : Nat → List FR} {f : FR} {r : List FR} {s sY s2 : List SH} {e e' : EN} {XS W' xs : List Int64} {gv mu : Int32} (hn : 40000 ≤ n) (hC : BC C) (hZ : Z + 1 < 2 ^ 31) (hr : RR n mx d Z C c b m c1 m1 D h Ls K st t Fs (f :: r)) (hA : AT c m m1 D h d t f r s e k) (q1 : f_X1_step n c b t = some (3, c2, b2)) (q2 : ble b2 b) (q3 : Bd C c2 b2) (q4 : TC c2 t (((f.sp p1).sW (XS ++ W')) :: r)) (q5 : ∀ v, v ∈ XS → vS v ≠ 5) (q7 : OPC lc0 t c c2) (h50 : cd_dp c2 50 0 = some t) (h238 : cd_dp c2 238 t = some u) (hXS : XS.length = dd + xs.length) (hdd : dd ≤ 4) (hxs : ∀ i (hi : i < xs.length), cRF c2 (9 + t) (sz (((f.sp p1).sW W') :: r) + dd + i) = xs[i]) (hxv : ∀ v, v ∈ xs → VOK h v) (hxL : xs.length ≤ D.L u) (h239 : cI c2 239 t = nI (sz (((f.sp p1).sW W') :: r) + dd)) (h240 : cI c2 240 t = nI (sz (((f.sp p1).sW W') :: r))) (h241 : cI c2 241 t = gv) (hu : u < mN m1 35) (hs0 : mA m2 36 u = nI s0) (hs4 : s0 ≤ 4) (hmu : s0 = 4 → if h.1 = true then (gv = -1 ∨ ∃ y, y < h.2.2.2 ∧ gv = nI y) ∧ mu = gv + 1 else (∃ y, y < h.2.2.1 ∧ gv = nI y) ∧ mu = gv) (q9 : TM m2 t h.1 D.cb (((f.sp p1).sW W') :: r)) (q10 : OPM lm0 t m m2) (q11 : s = sY ++ s2) (q12 : WT h (D.P f.u) s2 W') (q13 : TPL m1 (D.Λ f.u) (D.L f.u) (D.lo f.u) (D.P f.u) (D.E f.u) p1 (none :: s2) e') (hp1 : f.p < p1) (hsz : sz (((f.sp p1).sW (XS ++ W')) :: r) < 32700)
    (hm0 : ∀ m', f_X12_begin n m2 (nI t) (nI u) mu = some (0, m') → f_X12_step n m = some (0, m'))
    (hm1 : ∀ (m3 : md_S) (g0 : FR), f_X12_begin n m2 (nI t) (nI u) mu = some (1, m3) → g0.L = nones (D.L u) → TM m3 t h.1 D.cb (g0 :: ((f.sp p1).sW W') :: r) → mI m3 127 = nI t → (∀ g, g ∈ [39, 44, 96, 97, 99, 100, 121, 122] → ∀ i, mA m3 g i = mA m2 g i) → ∃ m4, f_X12_step n m = some (0, m4) ∧ TM m4 t h.1 D.cb (g0.sL (xs ++ nones (D.L u - xs.length)) :: ((f.sp p1).sW W') :: r) ∧ OPM [118, 119] t m3 m4) : NXT n mx d Z C c b m c1 m1 D h K st t Fs (f :: r) := by
  obtain ⟨t1, t2, t3, t4, t5, ⟨t6, t7⟩, t8, t9, t10, ⟨t11, t12, t13, t14⟩, ⟨l1, l2, l3, l4, l5⟩⟩ := id hA
  have hR2 := hr.1.op q7 q10
  obtain ⟨hG, ⟨a1, a2, a3, a4, a5, a6, a7⟩, hO⟩ := id hR2
  obtain ⟨g5, g6, g7, g8, g9, g10, g11⟩ := hG.2.2.1
  by_cases qs : st < mx
  · by_cases ql : r.length + 1 < 60
    · -- it begins
      obtain ⟨f1, ef1⟩ : ∃ f1, f1 = (f.sp p1).sW W' := ⟨_, rfl⟩
      rw [← ef1] at hxs h239 h240 q9 hm1
      have hSU := hG.1.2.2.2.2.2 u hu
      obtain ⟨-, -, -, u288, hu60⟩ := hG.1.un hu
      have hT0 : TC (cSI c2 41 0 (nI (st + 1))) t (((f.sp p1).sW (XS ++ W')) :: r) := q4.sag (SAG.fr (cd_fr_SI (cd_fr_refl c2 [41] []) (by simp) (by decide) 0 (nI (st + 1))) (by decide) (by simp))
      have hnd1 := hT0.node (n := n)
      have hcx1 := hT0.cont (n := n)
      have hbg : BGN m2 t h.1 f.nd f.cx (mA m2 115 (60 * t + r.length)) := Or.inr ⟨r.length, by omega, by rw [q9.1.1, List.length_cons], rfl, fun z => by
        have := q9.1.2.2.2.2.2.1.2.2.2.1 z
        rw [ef1] at this
        exact this, by
        have := q9.1.2.2.2.2.2.1.2.2.2.2
        rw [ef1] at this
        exact this⟩
      obtain ⟨nd', cx', h', Ls', c3, b3, m3, k1, k2, k3, k4, k5, k6, k7, k8, k9, k10, k11⟩ := beg_a (n := n) (T := t) (me := t) (DT := r.length + 1) (u := u) (s := s0) (gv := gv) (mu := mu) hn hC hG q3 qs hu h50 h238 q4.1 ql hnd1 hcx1 a2 t12 t12 (by rw [q9.1.1, List.length_cons]) hbg hs0 hs4 (fun z => Or.inr (t3.2.2.2.2.1 z)) t3.2.2.2.2.2 h241 hmu
      -- the class enters
      have hF3 : CFS c3 t (f1 :: r) := by
        have hT3 := q4.sag (SAG.fr (t := t) k5 (by decide) (by simp; omega))
        have hz := hT3.2.2.1
        have hlt : rsz c3 (9 + t) < 1000000 := (k4.1 (9 + t) (by omega)).szlt
        have := hT3.cutz (X := XS) (V := W') (k := sz (f1 :: r)) rfl (by rw [ef1]; rfl) hlt
        rw [ef1]
        exact this.2.2.2.of (fun _ _ _ _ _ => rfl) (fun _ _ => rfl)
      have hz3 : rsz c3 (9 + t) = sz (f1 :: r) + dd + xs.length := by
        rw [rsz_e (cd_frz k5 (by simp; omega)), q4.2.2.1, ef1]
        show sz r + f.d + f.L.length + (XS ++ W').length = sz r + f.d + f.L.length + W'.length + dd + xs.length
        rw [List.length_append]; omega
      have hszf : sz (f1 :: r) + dd + xs.length < 32700 := by rw [← hz3, rsz_e (cd_frz k5 (by simp; omega)), q4.2.2.1]; exact hsz
      have hszL : sz (f1 :: r) + dd + D.L u < 32768 := by
        have hF1 : FTS h m1 D [none] (f1 :: r) := by rw [ef1]; exact ⟨⟨t3.1, t3.2.1, t3.2.2⟩, ⟨s2, e', q13, q12⟩, t4⟩
        have := (hF1.bd hG.1.2.2.2.2.2).2.2.2
        rw [List.length_cons] at this
        have := hSU.2.1.1
        omega
      obtain ⟨c4, b4, j1, j2, j3, j4, j5, j6⟩ := c_enter (n := n) (T := t) (u := u) (L := D.L u) (dd := dd) (F := f1 :: r) (xs := xs) (nd := nd') (cx := cx') hn hC k4 t12 hF3 (by rw [cd_frI k5 (by decide) (by decide), q4.1]; rfl) (by rw [List.length_cons]; exact ql) (by rw [dp_fr k5 (by decide) (by decide)]; exact h238) (by rw [cd_frI k5 (by decide) (by decide)]; exact u288) (by rw [cd_frI k5 (by decide) (by decide)]; exact h239) (by rw [cd_frI k5 (by decide) (by decide)]; exact h240) (by rw [cd_frI k5 (by decide) (by decide), cd_frI k5 (by decide) (by decide)]; exact hSU.2.2.2.2.1.2.1) hz3 (fun i hi => by rw [cd_frF k5 (by simp; omega)]; exact hxs i hi) hxL hszL
      -- the model enters
      have hM3 : TM m3 t h.1 D.cb (f1 :: r) := q9.mag (MAG.fr k6 (by decide))
      have hSU3 := k7.1.2.2.2.2.2 u hu
      obtain ⟨m4, i1, i2, i3, i4, i5, i6⟩ := m_enter (n := n) (T := t) (u := u) (L := D.L u) (st := st) (dd := dd) (nd := nd') (cx := cx') hn t12 hu60 hM3 (by rw [List.length_cons]; exact ql) (by
        have hF1 : FTS h m1 D [none] (f1 :: r) := by rw [ef1]; exact ⟨⟨t3.1, t3.2.1, t3.2.2⟩, ⟨s2, e', q13, q12⟩, t4⟩
        have := (hF1.bd hG.1.2.2.2.2.2).1
        rw [List.length_cons] at this
        have := hSU.2.1.1
        omega) hSU3.2.2.2.2.1.2.2 hSU3.2.2.2.1.1 (fun z => (k10 z).1)
      have hme4 : mI m4 127 = nI t := by rw [md_frI i3 (by decide), md_frI k6 (by decide)]; exact a2
      obtain ⟨m5, y1, y2, y3⟩ := hm1 m4 _ (k2.trans i1) rfl i2 hme4 (fun g hg i => by
        have h1 : g ∉ [93, 108, 111, 112, 113, 114, 115, 116, 117, 118, 119] := by simp at hg ⊢; omega
        have h2 : g ∉ [89, 101, 102, 103, 104, 130, 131, 132, 133, 134] := by simp at hg ⊢; omega
        rw [md_frA i3 h1, md_frA k6 h2])
      -- the most frames
      obtain ⟨c5, e5⟩ : ∃ c5, c5 = cSI c4 45 0 (if cI c4 45 0 < cI c4 232 t then cI c4 232 t else cI c4 45 0) := ⟨_, rfl⟩
      have h232 : cI c4 232 t = nI (r.length + 1 + 1) := by rw [j4.1]; rfl
      have h45 : cI c5 45 0 = mI m5 93 := by
        rw [e5, cI_SIe, md_frI y3.1 (by decide), i6, h232, cd_frI j5.1 (by decide) (by decide), k7.2.2.2.1.1]
        rfl
      have h50' : cd_dp c3 50 0 = some t := by rw [dp_fr k5 (by decide) (by decide)]; exact h50
      have h50'' : cd_dp c4 50 0 = some t := by rw [dp_fr j5.1 (by decide) (by decide)]; exact h50'
      have hbeg : f_X1_begin n c2 b2 t = some (0, c5, b4) := by
        refine k1 _ ?_ j3
        unfold f_X1_begin_J110
        rw [h50', bs_some, j1, bs_some]
        refine c_ck ?_ (Nat.le_refl _) (Nat.le_refl _)
        dsimp only
        rw [h50'', bs_some, bs_some, ← e5, show cd_dp c5 50 0 = some t by rw [e5]; exact h50'', bs_some, if_pos rfl]
      -- all of it
      have fc : cd_fr [45, 224, 225, 226, 227, 228, 229, 232, 233] [9 + t] c3 c5 := by
        rw [e5]; exact cd_fr_SI (cd_fr_mono j5.1 (by decide) (fun _ z => z)) (by simp) (by decide) _ _
      have fm : md_fr [93, 108, 111, 112, 113, 114, 115, 116, 117, 118, 119] m3 m5 := md_fr_tr i3 y3.1 (fun _ z => ⟨z, fun y => z (by simp at y ⊢; omega)⟩)
      have hG5 : GLB n mx d Z c5 m5 c1 m1 D h' Ls' K (st + 1) := k7.mf fc fm (by decide) (fun y hy => by simp at hy; omega) (by decide) h45
      have hs5 : ∀ y, y ≠ t → SAG c2 c5 y := fun y hy => ((SAG.fr (t := y) k5 (by decide) (by simp; omega)).tr (j5.2 y hy)).tr (by rw [e5]; exact SAG.fr (cd_fr_SI (cd_fr_refl c4 [45] []) (by simp) (by decide) _ _) (by decide) (by simp))
      have hmm5 : ∀ y, y ≠ t → MAG m2 m5 y := fun y hy => ((MAG.fr k6 (by decide)).tr (i4 y hy)).tr (y3.2 y hy)
      have hR5 : REST n mx d Z c5 m5 c1 m1 D h' Ls' K (st + 1) t Fs := by
        refine ⟨hG5, ⟨a1, ?_, ?_, ?_, ?_, ?_, ?_⟩, fun y hy hyt => (hO y hy hyt).sag (hs5 y hyt) (hmm5 y hyt) k8⟩
        · rw [md_frI fm (by decide), md_frI k6 (by decide)]; exact a2
        · rw [md_frI fm (by decide), md_frI k6 (by decide)]; exact a3
        · rw [cd_frI fc (by decide) (by decide), cd_frI k5 (by decide) (by decide)]; exact a4
        · obtain ⟨w1, w2, w3, w4, w5⟩ := a5
          refine ⟨?_, ?_, ?_, ?_, ?_⟩
          · rw [cd_frI fc (by decide) (by decide), cd_frI k5 (by decide) (by decide), md_frA fm (by decide), md_frA k6 (by decide)]; exact w1
          · rw [md_frA y3.1 (by decide), i5, e5, cI_SIo (by decide), j6, cd_frI k5 (by decide) (by decide), md_frA k6 (by decide), w2]
          · rw [cd_frI fc (by decide) (by decide), cd_frI k5 (by decide) (by decide), md_frA fm (by decide), md_frA k6 (by decide)]; exact w3
          · rw [md_frA fm (by decide), md_frA k6 (by decide)]; exact w4
          · rw [cd_frJ fc (by decide) (by decide), cd_frJ k5 (by decide) (by decide), md_frA fm (by decide), md_frA k6 (by decide), md_frA fm (by decide), md_frA k6 (by decide), md_frA fm (by decide), md_frA k6 (by decide)]; exact w5
        · rw [md_frA fm (by decide), md_frA k6 (by decide)]; exact a6
        · rw [md_frA fm (by decide), md_frA k6 (by decide)]; exact a7
      have hT5 : TC c5 t (((u, 0, dd), (nd', cx'), xs ++ nones (D.L u - xs.length), []) :: f1 :: r) := j4.sag (by rw [e5]; exact SAG.fr (cd_fr_SI (cd_fr_refl c4 [45] []) (by simp) (by decide) _ _) (by decide) (by simp))
      obtain ⟨e0, x0⟩ := hSU.1.start
      have hF5 : FTS h' m1 D [] (((u, 0, dd), (nd', cx'), xs ++ nones (D.L u - xs.length), []) :: f1 :: r) := by
        refine ⟨⟨hu, ?_, fun v hv => ?_, hdd, fun z => ?_, k11⟩, ⟨[], e0, x0, trivial⟩, ?_⟩
        · show (xs ++ nones (D.L u - xs.length)).length = D.L u
          rw [List.length_append]; unfold nones; rw [List.length_replicate]; omega
        · have hv' : v ∈ xs ++ nones (D.L u - xs.length) := hv
          rcases List.mem_append.mp hv' with z | z
          · exact (hxv v z).mo k8
          · unfold nones at z
            rw [List.eq_of_mem_replicate z]; exact VOK.none h'
        · obtain ⟨z1, z2⟩ := k10 (by rw [← k8.1]; exact z)
          exact ⟨st, z2, z1⟩
        · rw [ef1]
          exact FTS.mo k8 (F := (f.sp p1).sW W' :: r) ⟨⟨t3.1, t3.2.1, t3.2.2⟩, ⟨s2, e', q13, q12⟩, t4⟩
      have y2' : TM m5 t h'.1 D.cb (((u, 0, dd), (nd', cx'), xs ++ nones (D.L u - xs.length), []) :: f1 :: r) := by rw [k8.1]; exact y2
      refine ⟨2, 0, c5, b4, m5, by omega, ⟨(by decide : (0 : Int32) ≠ 1), _, q1, q2, (by decide : (3 : Int32) ≠ 1), _, hbeg, ble.tr j3 k3, rfl⟩, y1, Or.inl ⟨rfl, h', Ls', st + 1, _, k8, ⟨hR5.mo (by omega), j2.of (fun r hr => by rw [e5]; exact cI_SIo (by decide)) (fun r hr => by rw [e5]; rfl), hT5, y2', hF5⟩, by simp, ?_⟩⟩
      have hz1 := rm_lt t1 hp1
      have hz2 := rm_le D u 0
      have hz3' := hSU.2.2.2.2.2.2.2
      have e1 : μF D (((u, 0, dd), (nd', cx'), xs ++ nones (D.L u - xs.length), []) :: f1 :: r) = rm D u 0 + 1 + (rm D f.u p1 + 1 + μF D r) := by rw [ef1]; rfl
      have e2 : μF D (f :: r) = rm D f.u f.p + 1 + μF D r := rfl
      unfold μ
      rw [e1, e2]
      have : (mx - st) * 3303 = (mx - (st + 1)) * 3303 + 3303 := by
        rw [show mx - st = mx - (st + 1) + 1 by omega, Nat.add_mul]
      omega
    · -- too many frames
      have hl60 : r.length + 1 = 60 := by omega
      obtain ⟨k1, k2, k3, k4, k5⟩ := q4.fail (n := n) (x := 6) q3
      have hF : FTS h m1 D sY (f.sW W' :: r) := ⟨⟨t3.1, t3.2.1, t3.2.2⟩, ⟨s2, e, by rw [← q11]; exact t1, q12⟩, t4⟩
      obtain ⟨s', c', b', m', z1, z2, z3⟩ := fail_ok (g := f.sW W') (p1 := p1) (X0 := XS) (pre := sY) (x := 6) hn hC hZ (hR2.op (k4.mo (by decide)) (OPM.refl lm0 t m2)) k2 k3 q5 k5 q9.1 hF (by have : sz (((f.sW W').sp p1).sW (XS ++ (f.sW W').W) :: r) = sz (((f.sp p1).sW (XS ++ W')) :: r) := rfl; omega)
      refine ⟨3, s', c', b', m', by omega, ⟨(by decide : (0 : Int32) ≠ 1), _, q1, q2, (by decide : (3 : Int32) ≠ 1), (2, cSI c2 237 t 6, b2), ?_, ble.refl b2, (by decide : (2 : Int32) ≠ 1), _, z1, z3.1, rfl⟩, hm0 m' ?_, z3.fin (Nat.le_refl _) (by simp)⟩
      · show f_X1_begin n c2 b2 t = _
        unfold f_X1_begin
        refine c_ck ?_ (Nat.le_refl _) (Nat.le_refl _)
        rw [h50, bs_some, h238, bs_some, g5, g7, if_pos ((nI_ltI (by omega) (by omega)).mpr qs), bs_some, q4.1, List.length_cons, hl60, if_neg (by decide), bs_some, k1, bs_some]
      · unfold f_X12_begin
        rw [g6, g8, if_neg (show ¬ nI st = nI mx from fun z => by have := (nI_eq (a := st) (b := mx) (by omega) (by omega)).mp z; omega), m_ld111 t12, bs_some, q9.1.1, List.length_cons, hl60, if_pos (show nI 60 = 60 from rfl), z2, bs_some]
  · -- cut
    have hsm : st = mx := by omega
    refine ⟨2, 1, cSI c2 44 0 2, b2, mSI (mSI m2 129 1) 128 0, by omega, ⟨(by decide : (0 : Int32) ≠ 1), _, q1, q2, (by decide : (3 : Int32) ≠ 1), (1, cSI c2 44 0 2, b2), ?_, ble.refl b2, rfl⟩, hm0 _ ?_, Or.inr ⟨rfl, Or.inl (hR2.cut q3 (by omega))⟩⟩
    · show f_X1_begin n c2 b2 t = _
      unfold f_X1_begin
      refine c_ck ?_ (Nat.le_refl _) (Nat.le_refl _)
      rw [h50, bs_some, h238, bs_some, g5, g7, if_neg (fun z => absurd ((nI_ltI (by omega) (by omega)).mp z) (by omega))]
      rfl
    · unfold f_X12_begin
      rw [g6, g8, if_pos (by rw [hsm]), bs_some, bs_some]
