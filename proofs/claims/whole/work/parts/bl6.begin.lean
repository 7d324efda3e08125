/-! the plan says what of a unit the asking of rights wants to know -/
theorem PG.ufd {n : Nat} {c c1 : cd_S} {m m1 : md_S} {D : PD} {d : Nat} (h : PG n c m d c1 m1 D) : UFD c m := by
  obtain ⟨⟨⟨⟨c0, hO, fc, -⟩, ⟨g, l, z, hP, hD, h101, hHM⟩, hgr, hM, hX⟩, -⟩, hc, hr, hm, hp, hcod⟩ := h
  have n35 : mN m 35 = mN m1 35 := hm.mN (by decide)
  have C1 : ∀ f, f ∈ plCF → f ∉ [104, 259, 297, 301] → f ≠ 193 → ∀ i, cI c f i = cI c0 f i := fun f h1 h2 h3 i => ((hc f h1).1 i).trans (cd_frI fc h2 h3 i)
  obtain ⟨⟨p1, p2, p3, p4, p5, p6, p7, p8, p9⟩, r1, -, e, fv, i1, i2, i3, -, i5, i6, i7, i8, i9, i10⟩ := hO
  have hLM : LM m1 := i1.2.2.2.2.2
  have h22 : mN m1 22 = l := mN_of hP.2.2.2.2.2.2.1 (by have := hP.2.2.1; omega)
  refine ⟨by omega, fun u hu => ?_⟩
  obtain ⟨t, t1, t2⟩ := i9 u (by omega)
  obtain ⟨dm, d1, d2, d3⟩ := h101 t t1
  have h8 : t < 8 := by have := i5.1; omega
  have hd8 : dm < 8 := by have := hD.1; omega
  obtain ⟨u289, ⟨s, s1, s2⟩, u290, -, -, -, -, u296, -, -, -, ⟨t', a1, a2, a3, -⟩⟩ := e u (by omega)
  have et : t' = t := (nI_eq (by omega) (by omega)).mp (a1.symm.trans t2)
  rw [et, ← cd_frA fc (by decide) (by decide), d2] at a3
  have g291 : cI c 291 u = nI dm := by rw [C1 291 (by decide) (by decide) (by decide)]; exact a3
  have g289 : cI c 289 u = nI s := by rw [C1 289 (by decide) (by decide) (by decide), u289]; exact s2
  have g296 : cI c 296 u = mA m1 42 u := by rw [C1 296 (by decide) (by decide) (by decide)]; exact u296
  have g42 : mA m 42 u = mA m1 42 u := (hm 42 (by decide)).2.2.1 u
  have base : ∀ w, w ≤ 12 → (if s = 3 then 0 < w ∧ cI c 296 u = nI (w - 1) ∧ mA m 42 u = nI (w - 1) else w = 0) → ∃ t d s w, t < 8 ∧ mA m 37 u = nI t ∧ d < 8 ∧ mA m 32 t = nI d ∧ cI c 291 u = nI d ∧ s < 100 ∧ mA m 36 u = nI s ∧ cI c 289 u = nI s ∧ w ≤ 12 ∧ (if s = 3 then 0 < w ∧ cI c 296 u = nI (w - 1) ∧ mA m 42 u = nI (w - 1) else w = 0) := fun w w1 w2 =>
    ⟨t, dm, s, w, h8, by rw [(hm 37 (by decide)).2.2.1]; exact t2, hd8, by rw [(hm 32 (by decide)).2.2.1]; exact d3, g291, by omega, by rw [(hm 36 (by decide)).2.2.1]; exact s2, g289, w1, w2⟩
  by_cases q : s = 3
  · obtain ⟨a, b1, b2⟩ := hLM u (by omega) (by rw [s2, q]; rfl)
    have := hP.2.2.1
    refine base (a + 1) (by omega) ?_
    rw [if_pos q, g296, g42, b2, Nat.add_sub_cancel]
    exact ⟨by omega, rfl, rfl⟩
  · exact base 0 (by omega) (by rw [if_neg q])
theorem PG.need {n d u : Nat} {c c1 : cd_S} {m m1 : md_S} {D : PD} (h : PG n c m d c1 m1 D) (hu : u < mN m1 35) : cI c 301 u ≠ 0 ↔ mA m 47 u ≠ 0 := by
  obtain ⟨⟨⟨-, -, -, hM, hX⟩, -⟩, hc, -, hm, -⟩ := h
  rw [(hc 301 (by decide)).1, (hm 47 (by decide)).2.2.1]
  exact (hX.2.2.2.2.1 u hu).symm.trans (hM.2.2.1 u hu).symm
theorem HP.mo {c c1 : cd_S} {m m1 : md_S} {h h' : HV} {d : Nat} (hh : HP c m h c1 m1 d) (hl : HVle h h') (ht : h'.2.1 = h.2.1) : HP c m h' c1 m1 d := by
  obtain ⟨H, a, b, e⟩ := hh
  refine ⟨H, by rw [ht]; exact a, by rw [ht]; exact b, fun j hj => ?_⟩
  obtain ⟨x, y, z⟩ := e j hj
  exact ⟨x, by rw [hl.1]; exact y, z.mo hl⟩
/-- a node more -/
theorem c_node {n u N : Nat} {C : Nat × Nat} {c : cd_S} {b : cd_B} {T : Nat} {nd gv : Int32} (hC : BC C) (hB : Bd C c b) (h5 : rsz c 5 = 3 * N) (hN : N < 4000) (h288 : cI c 288 u = nI u) (hT : cd_dp c 50 0 = some T) (hg : cI c 241 T = gv) : ∃ c' b', f_X1_addNode n c b u nd = some (nI N, c', b') ∧ Bd C c' b' ∧ ble b' b ∧ cd_fr [] [5] c c' ∧ rsz c' 5 = 3 * (N + 1) ∧ cRF c' 5 (3 * N) = (nI u).toInt64 ∧ cRF c' 5 (3 * N + 1) = nd.toInt64 ∧ cRF c' 5 (3 * N + 2) = gv.toInt64 ∧ ∀ j, j < 3 * N → cRF c' 5 j = cRF c 5 j := by
  have hcap : rcap 5 = 12288 := by decide
  obtain ⟨b1, d1, e1, f1, g1⟩ := c_add (n := n) (v := (nI u).toInt64) hC hB (r := 5) (by omega) (by omega)
  have y1 : rsz (rAdd c 5 (nI u).toInt64) 5 = 3 * N + 1 := by rw [rAdd_sz (by omega), h5]
  obtain ⟨b2, d2, e2, f2, g2⟩ := c_add (n := n) (v := nd.toInt64) hC e1 (r := 5) (by omega) (by omega)
  have y2 : rsz (rAdd (rAdd c 5 (nI u).toInt64) 5 nd.toInt64) 5 = 3 * N + 2 := by rw [rAdd_sz (by omega), y1]
  obtain ⟨b3, d3, e3, f3, g3⟩ := c_add (n := n) (v := gv.toInt64) hC e2 (r := 5) (by omega) (by omega)
  have y3 : rsz (rAdd (rAdd (rAdd c 5 (nI u).toInt64) 5 nd.toInt64) 5 gv.toInt64) 5 = 3 * N + 3 := by rw [rAdd_sz (by omega), y2]
  have k1 := (hB.1 5 (by omega)).2.1
  have k2 := (e1.1 5 (by omega)).2.1
  have k3 := (e2.1 5 (by omega)).2.1
  have hdp : cd_dp (rAdd (rAdd c 5 (nI u).toInt64) 5 nd.toInt64) 50 0 = some T := by
    have e : ∀ s r v, cd_dp (rAdd s r v) 50 0 = cd_dp s 50 0 := fun s r v => by
      unfold cd_dp
      rw [show (rAdd s r v).2.2.2.2.1 50 0 = s.2.2.2.2.1 50 0 from rAdd_P s r v 50 0]
    rw [e, e]; exact hT
  have hg' : cI (rAdd (rAdd c 5 (nI u).toInt64) 5 nd.toInt64) 241 T = gv := by rw [rAdd_Io (by decide), rAdd_Io (by decide)]; exact hg
  refine ⟨rAdd (rAdd (rAdd c 5 (nI u).toInt64) 5 nd.toInt64) 5 gv.toInt64, b3, ?_, e3, ⟨by omega, by omega⟩, cd_fr_add (cd_fr_add (cd_fr_add (cd_fr_refl _ _ _) (by simp) _) (by simp) _) (by simp) _, by omega, ?_, ?_, ?_, fun j hj => ?_⟩
  · unfold f_X1_addNode
    refine c_ck ?_ (by dsimp only; omega) (by dsimp only; omega)
    rw [h288, d1, bs_some]
    refine c_ck ?_ (by dsimp only; omega) (by dsimp only; omega)
    dsimp only
    rw [d2, bs_some]
    refine c_ck ?_ (by dsimp only; omega) (by dsimp only; omega)
    dsimp only
    rw [hdp, bs_some, hg', d3, bs_some]
    refine c_ck ?_ (by dsimp only; omega) (by dsimp only; omega)
    dsimp only
    rw [(e3.1 5 (by omega)).1, y3, show 3 * N + 3 = 3 * (N + 1) by omega, show (3 : Int32) = nI 3 from rfl, nI_divk (by decide) (by decide) (by omega), show (1 : Int32) = nI 1 from rfl, nI_sub (by omega), Nat.add_sub_cancel]
  · rw [rAdd_Fl k3 (by omega), rAdd_Fl k2 (by omega), ← h5, rAdd_Fe]
  · rw [rAdd_Fl k3 (by omega), ← y1, rAdd_Fe]
  · rw [← y2, rAdd_Fe]
  · rw [rAdd_Fl k3 (by omega), rAdd_Fl k2 (by omega), rAdd_Fl k1 (by omega)]
