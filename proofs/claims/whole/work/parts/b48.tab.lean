/-! tables of numbers and names grow -/
theorem ST.tab {c c' : cd_S} {m m' : md_S} {O : List Nat} {mc k kl : Nat} (h : ST c m O mc k kl) (fc : cd_fr [75, 76, 77, 78] [] c c') (fm : md_fr [58, 59, 60, 61] m m') (hn : NUR c' m') (ha : NAR c' m') (h58 : mN m 58 ≤ mN m' 58) (h60 : mN m 60 ≤ mN m' 60) : ST c' m' O mc k kl ∧ GR c c' m m' := by
  obtain ⟨-, q35, q50, -⟩ := h.nv
  have hc : ∀ F : List Nat, (∀ f, f ∈ F → f ∉ [75, 76, 77, 78] ∧ f ≠ 193) → CE F c c' := fun F hF => CE.of fc hF
  have hm : ∀ G : List Nat, (∀ f, f ∈ G → f ∉ [58, 59, 60, 61]) → ME G m m' := fun G hG => ME.of fm hG
  have o : ∀ q, q ∉ [58, 59, 60, 61] → mN m' q = mN m q := fun q hq => mN_fr fm hq
  have o35 := o 35 (by decide)
  have o50 := o 50 (by decide)
  have o62 := o 62 (by decide)
  have o64 := o 64 (by decide)
  have o65 := o 65 (by decide)
  have o48 := o 48 (by decide)
  have hkp : KP m m' := ⟨fun v _ => kv_ME (hm _ (by decide)) v, h58, by omega, h60, by omega, by omega, fun i => ⟨md_frA fm (by decide) i, md_frA fm (by decide) i⟩, CG.fr fm (by decide), S36.fr fm (by decide)⟩
  have A : ∀ f, f ∉ [58, 59, 60, 61] → ∀ i, mA m' f i = mA m f i := fun f hf i => md_frA fm hf i
  refine ⟨?_, ?_⟩
  · obtain ⟨a1, ⟨b1, b2, b3, b4, b5⟩, ⟨d1, d2, d3, d4, d5, d6⟩, e, f, g, i1, i2, i3, ⟨gg, ll, i4⟩, i5, i6, ⟨r, i7, i8, i9⟩, i10, i11⟩ := h
    refine ⟨a1.to (hc _ (by decide)) (fun i _ => cd_frz fc (by simp)), ⟨?_, ?_, ?_, ?_, ?_⟩, ⟨?_, ?_, ?_, ?_, d5, ?_⟩, ?_, ?_, g.to (hc _ (by decide)) (hm _ (by decide)), hn, ha, i3.to (hc _ (by decide)) (hm _ (by decide)), ⟨gg, ll, i4.me (hc _ (by decide)) (hm _ (by decide))⟩, i5.to (hc _ (by decide)) (hm _ (by decide)) (by omega), ?_, ⟨r, ?_, ?_, ?_⟩, by omega, fun u hu => i11 u (by rw [o64, AN_ME (hm _ (by decide))] at hu; exact hu)⟩
    · rw [cd_frI fc (by decide) (by decide), md_frI fm (by decide)]; exact b1
    · rw [cd_frI fc (by decide) (by decide), md_frI fm (by decide)]; exact b2
    · rw [cd_frI fc (by decide) (by decide), md_frI fm (by decide)]; exact b3
    · rw [cd_frP fc (by decide) (by decide), o64]; exact b4
    · rw [o64, md_frI fm (by decide)]; exact b5
    · rw [o65, md_frI fm (by decide)]; exact d1
    · omega
    · rw [o50, md_frI fm (by decide)]; exact d3
    · omega
    · intro i hi
      obtain ⟨l, l1, l2⟩ := d6 i (by omega)
      exact ⟨l, by rw [cd_frI fc (by decide) (by decide)]; exact l1, by omega⟩
    · exact fun i hi => (e i (by omega)).to (hc _ (by decide)) (hm _ (by decide))
    · exact fun v hv => (f v (by omega)).to (hm _ (by decide)) (by omega)
    · intro i hi hO
      exact (i6 i (by omega) hO).to (rL_fr fc (by simp)) (cd_frI fc (by decide) (by decide) _) (A 41 (by decide) i) hkp q35 (by omega) (by omega) (fun r ns _ _ _ => TK.of (hm _ (by decide)) r ns) (clk (hm _ (by decide)))
    · rw [cd_frP fc (by decide) (by decide)]; exact i7
    · rw [o64, AN_ME (hm _ (by decide))]; exact i8
    · rw [A 36 (by decide)]; exact i9
  · refine ⟨⟨by omega, fun j _ => ⟨A 66 (by decide) j, A 67 (by decide) j, A 68 (by decide) j, A 69 (by decide) j, A 70 (by decide) j, ⟨A 71 (by decide) j, A 72 (by decide) j⟩⟩⟩, hkp, fun i hi => ⟨⟨A 36 (by decide) i, A 37 (by decide) i, A 39 (by decide) i, A 40 (by decide) i, A 41 (by decide) i, A 55 (by decide) i, md_frL fm (by decide) i, cd_frJ fc (by decide) (by decide) i⟩, fun _ => ⟨A 46 (by decide) i, rL_fr fc (by simp), cd_frI fc (by decide) (by decide) i⟩, fun _ => ⟨A 44 (by decide) i, fun x _ => A 45 (by decide) _⟩⟩, fun v _ => ⟨A 51 (by decide) v, md_frL fm (by decide) v, A 53 (by decide) v, A 54 (by decide) v⟩, md_frI fm (by decide), fun i _ => A 57 (by decide) i, md_frI fm (by decide), md_frI fm (by decide), md_frI fm (by decide), cd_frI fc (by decide) (by decide) 0, cd_frP fc (by decide) (by decide) 0, fun i a1 a2 => ?_, by omega⟩
    omega
/-- a number -/
theorem num_ok {n : Nat} {C : Nat × Nat} {B : Nat → Int32} {N : Nat} {dm kd : Nat} (hC : BC C) (hn : 5000 ≤ n) (hkd : kd ≤ 30) : EXw C B N (fun k => k = 3) (fun c b => f_X4_readPlainAtom n c b) (fun m => Option.bind (f_X12_countsPart n m) fun p23 => if p23.1 = 0 then (some ((0 : Int32), p23.2)) else (Option.bind (f_X12_simpleNumber n p23.2) fun p24 => some (p24.1, p24.2))) dm kd 3 := by
  intro c0 m0 c m b w L O mc k kl hc hm h hkw hs h63 hkl
  dsimp only at hkw ⊢
  unfold f_X4_readPlainAtom f_X12_simpleNumber
  refine out_ck ?_
  rcases part_st (n := n) hC hc hm h hs with ⟨c', b', m', e1, e2, e3, e4, e5⟩ | ⟨c2, m2, e1, e2, hc2, hm2, h2, hs2, hg2, hp2, hb2, fc2, fm2⟩
  · refine out_thr e1 e3 hc (ble.refl _) (x := 0) (m' := m') ?_ e4 e5
    rw [e2, bs_some]
    rfl
  · refine out_c e1 ?_
    dsimp only
    rw [e2, bs_some]
    dsimp only
    rw [if_neg ne10, h2.k.1, if_pos hkw]
    obtain ⟨v, v1, v2, v3⟩ := h2.mw.2.2.2.2.2.2.1 hkw
    have hnu : NUR c2 m2 := by
      obtain ⟨-, -, -, -, -, -, z, -⟩ := hs2
      exact z
    have hna : NAR c2 m2 := by
      obtain ⟨-, -, -, -, -, -, -, z, -⟩ := hs2
      exact z
    have hlt : mN m2 58 < mN m2 62 := by
      have h1 : mN m 58 ≤ mN m 62 := by
        obtain ⟨-, -, -, -, -, -, z, -⟩ := hs
        exact z.2.2.1
      have h2 : mN m2 58 = mN m 58 := mN_fr fm2 (by decide)
      omega
    obtain ⟨x, c3, m3, f1, f2, f3, f4, f5, f6, f7⟩ := nbr_ok (n := n) (v := nI v) hn hnu hlt hs2.nv.1
    have f3' : cd_fr [75, 76, 77, 78] [] c2 c3 := cd_fr_mono f3 (by decide) (fun _ y => y)
    have f4' : md_fr [58, 59, 60, 61] m2 m3 := md_fr_mono f4 (by decide)
    have h62' : mN m3 62 = mN m2 62 := mN_fr f4 (by decide)
    obtain ⟨hs3, hg3⟩ := hs2.tab f3' f4' f5 (hna.to (CE.of f3 (by decide)) (ME.of f4 (by decide)) (by omega)) f7 (by rw [mN_fr f4 (by decide)]; exact Nat.le_refl _)
    have hw2 := hs2.now
    obtain ⟨w1, w2, w3, w4, w5, w6, w7, w8⟩ := hs3.now
    have e64 : mN m3 64 = mN m2 64 := hg3.n64
    have key := leaf_ok (n := n) (t := 0) (x := nI x) (y := 0) (k := k) hC hn (hc2.fr f3 (by decide)) (hm2.fr f4 (by decide)) (h2.fr f3 f4 (by decide) (by decide) (by decide)) (by rw [hkw]; decide) hs hs3 (GR.tr hs hg2 hg3) (by omega) (by rw [mN_fr f4 (by decide)]; omega) (by rw [cd_frI f3 (by decide) (by decide), cd_frI fc2 (by decide) (by decide)]) (by rw [rL_fr f3 (by simp), rL_fr fc2 (by simp)]) (by rw [mN_fr f4 (by decide), mN_fr fm2 (by decide)]) (by decide) (fun q hq i q1 q2 q3 => Or.inl ⟨q1, rfl, ⟨x, q2, Nat.lt_of_lt_of_le f6 hq.2.1⟩, q3⟩)
    rw [w4, bs_some, e64] at key
    rw [hw2.2.2.2.1, bs_some, h2.k.2.2, v2, lN_i, f1, bs_some, v3, f2, bs_some]
    dsimp only
    refine out_idm ?_
    exact key
