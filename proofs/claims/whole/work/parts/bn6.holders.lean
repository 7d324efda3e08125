/-! who has what is asked for: the same on both sides -/
theorem RK.refl (c : cd_S) : RK c c := fun _ _ => ⟨rfl, rfl, rfl, fun _ => rfl⟩
theorem RP.rkp {c c' : cd_S} {m m' : md_S} {r p : Nat} (h : RP c m r p) (hr : RK c c') (hp : PK m m') (h1 : r < 192) (h2 : p < 264) : RP c' m' r p := by
  obtain ⟨a, tl, r1, r2, r3, r4, r5, r6, r7⟩ := h
  obtain ⟨x1, x2, x3, x4⟩ := hr r h1
  obtain ⟨y1, y2, y3⟩ := hp p h2
  exact ⟨a, tl, r1, r2, x1.trans r3, x2.trans r4, y1.trans r5, y2.trans r6, fun i hi => by rw [x4, y3 i (by omega)]; exact r7 i hi⟩
theorem DomR.ce {c c' : cd_S} {m m' : md_S} {z : Nat} (h : DomR c m z) (hc : CE [100, 108] c c') (hm : ME [33, 34] m m') : DomR c' m' z :=
  ⟨h.1, by rw [(hc 108 (by decide)).1]; exact h.2.1, by rw [(hm 34 (by decide)).1]; exact h.2.2.1, fun i hi => by rw [(hc 100 (by decide)).2.2.1, (hm 33 (by decide)).2.2.1]; exact h.2.2.2 i hi⟩
/-- the askings, as the machine finds them -/
def AGM (c c1 : cd_S) (m : md_S) (N : Nat) : Prop := ∃ g l z, PolQ c m g g l ∧ PolQ c1 m g g l ∧ DomR c m z ∧ DomR c1 m z ∧ cI c 109 0 = nI N ∧ N ≤ 24 ∧ ∀ a, a < N → RP c m (168 + a) (240 + a) ∧ RP c1 m (168 + a) (240 + a) ∧ NR (cJ c 160 (168 + a)) (mL m 49 a) ∧ NR (cJ c1 160 (168 + a)) (mL m 49 a) ∧ cI c 163 (168 + a) = 0 ∧ (∃ k, k ≤ 4 ∧ cI c 162 (168 + a) = nI k) ∧ (mA m 136 a = 0 ∨ mA m 136 a = 1) ∧ cAr c 103 0 a = mA m 136 a ∧ (mA m 136 a = 0 → HM c1 g z l (168 + a) (cAr c 104 0 a))
theorem PG.agm {n d : Nat} {c c1 : cd_S} {m m1 : md_S} {D : PD} (h : PG n c m d c1 m1 D) : AGM c c1 m (mN m1 48) := by
  obtain ⟨⟨⟨⟨c0, hO, fc, -⟩, ⟨g, l, z, hP, hD, h101, hHM⟩, -⟩, -⟩, hc, hr, hm, hp, -⟩ := h
  have hA : AGR c1 m1 := hO.2.2.2.2.2.2.2.1.to (CE.of fc (by decide)) (ME.refl _ _)
  obtain ⟨a1, a2, a3, a4⟩ := hA
  refine ⟨g, l, z, hP.rk (hc.sub (by decide)) hr (hm.sub (by decide)) hp, hP.rk (CE.refl _ _) (RK.refl c1) (hm.sub (by decide)) hp, hD.ce (hc.sub (by decide)) (hm.sub (by decide)), hD.ce (CE.refl _ _) (hm.sub (by decide)), by rw [(hc 109 (by decide)).1]; exact a1, a3, fun a ha => ?_⟩
  obtain ⟨b1, b2, b3, b4, b5⟩ := a4 a ha
  obtain ⟨x1, x2, x3, x4⟩ := hr (168 + a) (by omega)
  have e49 := (hm 49 (by decide)).2.2.2 a
  have e136 := (hm 136 (by decide)).2.2.1 a
  exact ⟨b1.rkp hr hp (by omega) (by omega), b1.rkp (RK.refl c1) hp (by omega) (by omega), by rw [x3, e49]; exact b2, by rw [e49]; exact b2, x2.trans b3.1, by rw [x1]; exact b3.2, by rw [e136]; exact b4, by rw [(hc 103 (by decide)).2.2.1, e136]; exact b5, fun h0 => by rw [(hc 104 (by decide)).2.2.1]; exact hHM a ha (by rw [← e136]; exact h0)⟩
theorem hold0 {n a N : Nat} {c c1 : cd_S} {m : md_S} (hn : 100 ≤ n) (h : AGM c c1 m N) (ha : a < N) (h0 : mA m 136 a = 0) : f_X3_isIndexed n c (nI a) = some (0, c) ∧ ∃ x, f_X3_holdersOf n c (nI a) = some (x, c) ∧ f_X12_bitsOf n m (mL m 49 a) (nI (240 + a)) = some (x, m) := by
  obtain ⟨g, l, z, hP, hP1, hD, hD1, h109, hN, hA⟩ := h
  obtain ⟨b1, b1', b2, b2', b3, b4, b5, b6, b7⟩ := hA a ha
  have n0 : ¬ nI a < 0 := nI_nn (by omega)
  have nle : ¬ nI N ≤ nI a := fun z => absurd ((nI_leI (by omega) (by omega)).mp z) (by omega)
  refine ⟨?_, cAr c 104 0 a, ?_, ?_⟩
  · unfold f_X3_isIndexed
    rw [if_neg n0, h109, if_neg nle, c_ld103 (by omega), bs_some, b6, h0, if_pos rfl]
  · unfold f_X3_holdersOf
    rw [if_neg n0, h109, if_neg nle, c_ld104 (by omega), bs_some]
  · obtain ⟨-, -, y, y1, y2⟩ := bits_m (n := n) hn hP1.pol hD1 b1' (by omega) b2'
    rw [y1, HM.eq y2 (b7 h0)]
theorem hold1 {n a v N : Nat} {c c1 : cd_S} {m : md_S} (hn : 100 ≤ n) (h : AGM c c1 m N) (ha : a < N) (h1 : mA m 136 a = 1) (hv : v < 1000) : ∃ y0 c' m' x, f_X3_holdersOf n c (nI a) = some (y0, c) ∧ f_X3_aim n c (nI a) (nI v) = some (0, c') ∧ f_X12_placeWith n m (nI (240 + a)) (nI v) = some (0, m') ∧ f_X3_holders n c' 192 = some (x, c') ∧ f_X12_bitsOf n m' (mL m' 49 a) 265 = some (x, m') ∧ SK c c' m m' ∧ cd_fr [160, 161, 162, 163] [] c c' ∧ md_fr [17, 18, 19] m m' := by
  obtain ⟨g, l, z, hP, hP1, hD, hD1, h109, hN, hA⟩ := h
  obtain ⟨b1, b1', b2, b2', b3, b4, b5, b6, b7⟩ := hA a ha
  have n0 : ¬ nI a < 0 := nI_nn (by omega)
  have nle : ¬ nI N ≤ nI a := fun z => absurd ((nI_leI (by omega) (by omega)).mp z) (by omega)
  obtain ⟨c', m', e1, e2, e3, e4, e5, e6, e7, e8⟩ := aim_ok (n := n) hn hv ha hN h109 b1 b4 b3
  have hRK : RK c c' := fun x hx => e5.1 x (by omega)
  have hPK : PK m m' := fun x hx => ⟨(e7 x (by omega)).1, (e7 x (by omega)).2, fun i hi => e8 (5 * x + i) (by omega)⟩
  have hP' : PolQ c' m' g g l := hP.rk (CE.of e5.2 (by decide)) hRK (ME.of e6 (by decide)) hPK
  have hD' : DomR c' m' z := hD.ce (CE.of e5.2 (by decide)) (ME.of e6 (by decide))
  have e49 : mL m' 49 a = mL m 49 a := md_frL e6 (by decide) a
  have hNR : NR (cJ c' 160 192) (mL m' 49 a) := by rw [e4, e49]; exact b2
  obtain ⟨x, x1, x2⟩ := holders_c (n := n) hn hP'.pol hD' e3 (by omega) hNR
  obtain ⟨-, -, y, y1, y2⟩ := bits_m (n := n) hn hP'.pol hD' e3 (by omega) hNR
  refine ⟨cAr c 104 0 a, c', m', x, ?_, e1, e2, x1, ?_, ⟨CE.of e5.2 (by decide), hRK, fun r _ => rL_fr e5.2 (by simp), ME.of e6 (by decide), hPK, fun i => ⟨md_frA e6 (by decide) i, md_frA e6 (by decide) i⟩, cd_fr_mono e5.2 (by decide) (by simp), md_fr_mono e6 (by decide), fun x hx => e5.1 x (by omega), (e7 264 (by decide)).1, (e7 264 (by decide)).2, fun i hi => e8 (1320 + i) (by omega)⟩, e5.2, e6⟩
  · unfold f_X3_holdersOf
    rw [if_neg n0, h109, if_neg nle, c_ld104 (by omega), bs_some]
  · rw [show (265 : Int32) = nI 265 from rfl, y1, HM.eq y2 x2]
theorem idx1 {n a N : Nat} {c c1 : cd_S} {m : md_S} (h : AGM c c1 m N) (ha : a < N) (h1 : mA m 136 a = 1) : f_X3_isIndexed n c (nI a) = some (1, c) := by
  obtain ⟨g, l, z, hP, hP1, hD, hD1, h109, hN, hA⟩ := h
  obtain ⟨b1, b1', b2, b2', b3, b4, b5, b6, b7⟩ := hA a ha
  unfold f_X3_isIndexed
  rw [if_neg (show ¬ nI a < 0 from nI_nn (by omega)), h109, if_neg (show ¬ nI N ≤ nI a from fun z => absurd ((nI_leI (by omega) (by omega)).mp z) (by omega)), c_ld103 (by omega), bs_some, b6, h1, if_neg (show ¬ (1 : Int32) = 0 by decide)]
/-! what an asking may change -/
theorem GLB.ask {n mx d Z K st : Nat} {c c' c1 : cd_S} {m m' m1 : md_S} {D : PD} {h : HV} {Ls : List (List Int32)} (hg : GLB n mx d Z c m c1 m1 D h Ls K st) (hc : cd_fr [46, 160, 161, 162, 163] [] c c') (hm : md_fr [17, 18, 19, 94] m m') (hk : SK c c' m m') (h46 : cI c' 46 0 = mI m' 94) : GLB n mx d Z c' m' c1 m1 D h Ls K st := by
  obtain ⟨h1, ⟨h2, h3, h4⟩, ⟨h5, h6, h7, h8, h9, h10, h11⟩, ⟨h12, h13, h14⟩, ⟨h15, h16⟩, ⟨h17, h18⟩, h19, h20, h21, h22⟩ := hg
  have cI' : ∀ f, f ∉ [46, 160, 161, 162, 163] → f ≠ 193 → cI c' f 0 = cI c f 0 := fun f a b => cd_frI hc a b 0
  have mI' : ∀ f, f ∉ [17, 18, 19, 94] → mI m' f = mI m f := fun f a => md_frI hm a
  refine ⟨h1.to hk, ⟨h2, ?_, ?_⟩, ⟨?_, ?_, ?_, ?_, h9, h10, ?_⟩, ⟨?_, h46, h14.fr hc hm (by decide) (by simp) (by decide)⟩, ⟨?_, ?_⟩, ⟨h17.fr hc hm (by decide) (by simp) (by decide), h18⟩, fun q => ⟨(h19 q).1.fr hc hm (by simp) (by decide), (h19 q).2⟩, h20.fr hc hm (by simp) (by decide), ?_, ?_⟩
  · rw [cI' 40 (by decide) (by decide)]; exact h3
  · rw [mI' 105 (by decide)]; exact h4
  · rw [cI' 41 (by decide) (by decide)]; exact h5
  · rw [mI' 89 (by decide)]; exact h6
  · rw [cI' 42 (by decide) (by decide)]; exact h7
  · rw [mI' 90 (by decide)]; exact h8
  · rw [mI' 101 (by decide)]; exact h11
  · rw [cI' 45 (by decide) (by decide), mI' 93 (by decide)]; exact h12
  · rw [cI' 49 (by decide) (by decide)]; exact h15
  · rw [mI' 87 (by decide)]; exact h16
  · rw [cI' 44 (by decide) (by decide)]; exact h21
  · rw [mI' 129 (by decide)]; exact h22
theorem REST.ask {n mx d Z K st t : Nat} {c c' c1 : cd_S} {m m' m1 : md_S} {D : PD} {h : HV} {Ls : List (List Int32)} {Fs : Nat → List FR} (hr : REST n mx d Z c m c1 m1 D h Ls K st t Fs) (hc : cd_fr [46, 160, 161, 162, 163] [] c c') (hm : md_fr [17, 18, 19, 94] m m') (hk : SK c c' m m') (h46 : cI c' 46 0 = mI m' 94) : REST n mx d Z c' m' c1 m1 D h Ls K st t Fs := by
  obtain ⟨h1, ⟨a1, a2, a3, a4, a5, a6, a7⟩, h3⟩ := hr
  refine ⟨h1.ask hc hm hk h46, ⟨a1, ?_, ?_, ?_, a5.fr hc hm (by decide) (by decide), ?_, ?_⟩, fun x hx hxt => (h3 x hx hxt).sag (SAG.fr hc (by decide) (by simp)) (MAG.fr hm (by decide)) (HVle.refl h)⟩
  · rw [md_frI hm (by decide)]; exact a2
  · rw [md_frI hm (by decide)]; exact a3
  · rw [cd_frI hc (by decide) (by decide)]; exact a4
  · rw [md_frA hm (by decide)]; exact a6
  · rw [md_frA hm (by decide)]; exact a7
/-- the answer, by contexts or by frames -/
theorem grn_ok {n mx d Z K st t : Nat} {C : Nat × Nat} {c c1 : cd_S} {b : cd_B} {m m1 : md_S} {D : PD} {h : HV} {Ls : List (List Int32)} {Fs : Nat → List FR} {f : FR} {r : List FR} (x : Int32) (hn : 40000 ≤ n) (ht : t < 8) (hR : REST n mx d Z c m c1 m1 D h Ls K st t Fs) (hB : Bd C c b) (hT : TC c t (f :: r)) (hM : TM m t h.1 D.cb (f :: r)) (hfi : FI h m1 D f) :
    ∃ v c' m', (v = 0 ∨ v = 1) ∧ (∀ l2 l3 l4, f_X1_ask_J97 n t c b l2 l3 l4 x = f_X1_ask_J130 n t c' b l2 l3 l4 v) ∧ (∀ l1 l2 l4, (if (mI m 87) = 0 then (Option.bind (f_X12_frameAt n m ) fun p7 => Option.bind (mldA p7.2 115 (p7.1)) fun v8 => Option.bind (f_X12_isGrantedIn n p7.2 v8 x) fun p9 => f_X12_asks__J122 n p9.2 l1 l2 l4 (p9.1)) else (Option.bind (f_X12_frameAt n m ) fun p10 => Option.bind (mldA p10.2 116 (p10.1)) fun v11 => Option.bind (f_X12_isGrantedBy n p10.2 v11 x) fun p12 => f_X12_asks__J122 n p12.2 l1 l2 l4 (p12.1))) = f_X12_asks__J122 n m' l1 l2 l4 v) ∧ REST n mx d Z c' m' c1 m1 D h Ls K st t Fs ∧ Bd C c' b ∧ TC c' t (f :: r) ∧ TM m' t h.1 D.cb (f :: r) := by
  obtain ⟨hG, ⟨a1, a2, -⟩, -⟩ := id hR
  obtain ⟨h49, h87⟩ := hG.2.2.2.2.1
  obtain ⟨hctx, hl1, hl2⟩ := hG.2.2.2.2.2.1
  have hst := hG.2.2.1.2.2.2.2.1
  have hmx := hG.2.2.1.2.2.2.2.2.1
  have hfa := hM.1.fa (n := n) a2 ht
  have hpl := hM.pl ht
  by_cases q : h.1 = true
  · rw [if_pos q] at h49 h87
    obtain ⟨o, o1, o2, o3⟩ : ∃ o, o < ([0] :: Ls).length ∧ f.cx = cnI o ∧ f.cx + 1 = nI o := by
      rcases hfi.2.2.2.2.2 with z | ⟨y, y1, y2⟩
      · exact ⟨0, by simp, z, by rw [z]; rfl⟩
      · refine ⟨y + 1, by simp; omega, ?_, by rw [y2, nI_1]⟩
        unfold cnI
        rw [if_neg (by omega), y2]; rfl
    obtain ⟨v, g1, g2, g3⟩ := grants_ok (n := n) x (by omega) hctx o1 (by omega)
    refine ⟨v, c, m, g3, fun l2 l3 l4 => ?_, fun l1 l2 l4 => ?_, hR, hB, hT, hM⟩
    · unfold f_X1_ask_J97
      rw [h49, if_neg ne10, hT.cont, bs_some]
      dsimp only
      rw [o2, g1, bs_some]
    · rw [h87, if_neg ne10, hfa, bs_some]
      dsimp only
      rw [hpl.2.2.2.2.1, bs_some, o3, g2, bs_some]
  · have qf : h.1 = false := by cases hh : h.1 <;> simp_all
    rw [if_neg q] at h49 h87
    obtain ⟨hnds, hnd2⟩ := hG.2.2.2.2.2.2.1 qf
    have hv : PRV f.nd st := by
      obtain ⟨y, y1, y2⟩ := hfi.2.2.2.2.1 qf
      exact Or.inr ⟨y, by omega, y2⟩
    obtain ⟨v, c', m', g1, g2, g3, g4, g5, g6⟩ := walk_ok (n := n) x (by omega) hv hnds hG.1.ufd hG.2.2.2.1.2.1
    have h115 : mA m 115 (60 * t + r.length) = f.nd := hM.1.2.2.2.2.2.1.2.2.2.1 qf
    refine ⟨v, c', m', g3, fun l2 l3 l4 => ?_, fun l1 l2 l4 => ?_, hR.ask (cd_fr_mono g4 (by decide) (by simp)) (md_fr_mono g5 (by decide)) (SK.fr g4 g5 (by decide) (by simp) (by decide)) g6, hB.fr g4, hT.sag (SAG.fr g4 (by decide) (by simp)), hM.mag (MAG.fr g5 (by decide))⟩
    · unfold f_X1_ask_J97
      rw [h49, if_pos rfl, hT.node, bs_some]
      dsimp only
      rw [g1, bs_some]
    · rw [h87, if_pos rfl, hfa, bs_some]
      dsimp only
      rw [hpl.2.2.2.2.2, bs_some, h115, g2, bs_some]
