/-! the readers' state: counts, emission, parts, nodes, children -/
/-- Unit.emit -/
def em (c : cd_S) (u : Nat) (x y z : Int32) : cd_S := rAdd (rAdd (rAdd c (17 + 3 * u) x.toInt64) (17 + 3 * u) y.toInt64) (17 + 3 * u) z.toInt64
theorem rcap_scr {u : Nat} (hu : u < 60) : rcap (17 + 3 * u) = 12288 := by
  have : ∀ u, u < 60 → rcap (17 + 3 * u) = 12288 := by decide
  exact this u hu
theorem c_emit {n : Nat} {C : Nat × Nat} {c : cd_S} {b : cd_B} {u : Nat} {x y z : Int32} (hC : BC C) (h : Bd C c b) (hu : u < 60) (hz : rsz c (17 + 3 * u) + 3 ≤ 12288) : ∃ b', f_X9_emit n c b u x y z = some (0, em c u x y z, b') ∧ Bd C (em c u x y z) b' ∧ ble b' b := by
  have hcap := rcap_scr hu
  have hr : 17 + 3 * u < 197 := by omega
  have hs := (h.1 _ hr).szlt
  obtain ⟨b1, e1, h1, p1, q1⟩ := c_add (n := n) (r := 17 + 3 * u) (v := x.toInt64) hC h hr (by omega)
  have z1 := rAdd_sz (r := 17 + 3 * u) (v := x.toInt64) hs
  obtain ⟨b2, e2, h2, p2, q2⟩ := c_add (n := n) (r := 17 + 3 * u) (v := y.toInt64) hC h1 hr (by rw [z1]; omega)
  have z2 := rAdd_sz (r := 17 + 3 * u) (v := y.toInt64) (s := rAdd c (17 + 3 * u) x.toInt64) (by omega)
  obtain ⟨b3, e3, h3, p3, q3⟩ := c_add (n := n) (r := 17 + 3 * u) (v := z.toInt64) hC h2 hr (by rw [z2]; omega)
  refine ⟨b3, ?_, h3, by omega, by omega⟩
  unfold f_X9_emit
  refine c_ck ?_ (show b3.1 ≤ b.1 by omega) (show b3.2 ≤ b.2 by omega)
  rw [e1, bs_some]
  refine c_ck ?_ (show b3.1 ≤ b1.1 by omega) (show b3.2 ≤ b1.2 by omega)
  dsimp only
  rw [e2, bs_some]
  refine c_ck ?_ (show b3.1 ≤ b2.1 by omega) (show b3.2 ≤ b2.2 by omega)
  dsimp only
  rw [e3, bs_some]
  exact c_ck rfl (Nat.le_refl _) (Nat.le_refl _)
theorem em_fr (c : cd_S) (u : Nat) (x y z : Int32) : cd_fr [] [17 + 3 * u] c (em c u x y z) := cd_fr_add (cd_fr_add (cd_fr_add (cd_fr_refl _ _ _) (by simp) _) (by simp) _) (by simp) _
theorem em_sz {c : cd_S} {u : Nat} {x y z : Int32} (hz : rsz c (17 + 3 * u) < 900000) : rsz (em c u x y z) (17 + 3 * u) = rsz c (17 + 3 * u) + 3 := by
  unfold em
  have z1 := rAdd_sz (r := 17 + 3 * u) (v := x.toInt64) (s := c) (by omega)
  have z2 := rAdd_sz (r := 17 + 3 * u) (v := y.toInt64) (s := rAdd c (17 + 3 * u) x.toInt64) (by omega)
  rw [rAdd_sz (by omega), z2, z1]
theorem em_szo {c : cd_S} {u r : Nat} {x y z : Int32} (h : r ≠ 17 + 3 * u) : rsz (em c u x y z) r = rsz c r := by
  unfold em; rw [rAdd_szo h, rAdd_szo h, rAdd_szo h]
theorem em_L {c : cd_S} {u : Nat} {x y z : Int32} (h : RowOk c (17 + 3 * u)) (hu : u < 60) (hz : rsz c (17 + 3 * u) + 3 ≤ 12288) : rL (em c u x y z) (17 + 3 * u) = rL c (17 + 3 * u) ++ [x.toInt64, y.toInt64, z.toInt64] := by
  have hcap := rcap_scr hu
  unfold em
  have z1 := rAdd_sz (r := 17 + 3 * u) (v := x.toInt64) (s := c) (by omega)
  have h1 := rAdd_ok (v := x.toInt64) h (by omega)
  have h2 := rAdd_ok (v := y.toInt64) h1 (by omega)
  rw [rL_add h2, rL_add h1, rL_add h, List.append_assoc, List.append_assoc]; rfl
theorem em_Lo {c : cd_S} {u r : Nat} {x y z : Int32} (h : r ≠ 17 + 3 * u) : rL (em c u x y z) r = rL c r := by
  unfold em; rw [rL_addo h, rL_addo h, rL_addo h]
theorem em_I {c : cd_S} {u : Nat} {x y z : Int32} {f i : Nat} (h : f ≠ 193) : cI (em c u x y z) f i = cI c f i := cd_frI (em_fr c u x y z) (by simp) h i
theorem em_J {c : cd_S} {u : Nat} {x y z : Int32} {f i : Nat} (h : f ≠ 193) : cJ (em c u x y z) f i = cJ c f i := cd_frJ (em_fr c u x y z) (by simp) h i
theorem em_A {c : cd_S} {u : Nat} {x y z : Int32} {f i j : Nat} (h : f ≠ 193) : cAr (em c u x y z) f i j = cAr c f i j := cd_frA (em_fr c u x y z) (by simp) h i j
theorem em_Lr {c : cd_S} {u : Nat} {x y z : Int32} {f i j : Nat} (h : f ≠ 193) : cLr (em c u x y z) f i j = cLr c f i j := cd_frL (em_fr c u x y z) (by simp) h i j
theorem em_P {c : cd_S} {u : Nat} {x y z : Int32} {f i : Nat} (h : f ≠ 193) : cP (em c u x y z) f i = cP c f i := cd_frP (em_fr c u x y z) (by simp) h i
theorem mem_PRc {u : Nat} (hu : u < 60) : 17 + 3 * u ∈ PRc := List.mem_map.mpr ⟨u, List.mem_range.mpr hu, rfl⟩
theorem CI.em {C : Nat × Nat} {c0 c : cd_S} {b b0 b' : cd_B} {u : Nat} {x y z : Int32} (h : CI C c0 b c b0) (hB : Bd C (em c u x y z) b') (hb : ble b' b0) (hu : u < 60) : CI C c0 b (em c u x y z) b' :=
  ⟨hB, hb.tr h.2.1, cd_fr_tr h.2.2.1 (em_fr c u x y z) (fun k hk => ⟨hk, by simp⟩) (fun k hk => ⟨hk, fun y => hk (by rw [List.mem_singleton.mp y]; exact mem_PRc hu)⟩), h.2.2.2.tr (KR.of (em_fr c u x y z) (by simp) (by simp) (by simp) (by simp))⟩
theorem CI.fr2 {C : Nat × Nat} {c0 c c' : cd_S} {b b' : cd_B} {F R : List Nat} (h : CI C c0 b c b') (hB : Bd C c' b') (hf : cd_fr F R c c') (hF : ∀ k, k ∈ F → k ∈ PLc) (hR : ∀ k, k ∈ R → k ∈ PRc) : CI C c0 b c' b' :=
  ⟨hB, h.2.1, cd_fr_tr h.2.2.1 hf (fun k hk => ⟨hk, fun y => hk (List.mem_append_right _ (hF k y))⟩) (fun k hk => ⟨hk, fun y => hk (hR k y)⟩), h.2.2.2.tr (KR.of hf (fun y => absurd (hF _ y) (by decide)) (fun y => absurd (hF _ y) (by decide)) (fun y => absurd (hF _ y) (by decide)) (fun y => absurd (hF _ y) (by decide)))⟩
/-- what cannot throw, with heap -/
theorem out_em {C : Nat × Nat} {c0 : cd_S} {m0 : md_S} {b b1 : cd_B} {fe : Option (Int32 × cd_S × cd_B)} {v : Int32} {c1 : cd_S} {fm : Option (Int32 × md_S)} {Ok : Int32 → cd_S → cd_B → Int32 → md_S → Prop} {Pn : cd_S → cd_B → Prop} {RC : Int32 × cd_S × cd_B → Option Th} (h : fe = some (v, c1, b1)) (hb : ble b1 b) (hok : OUT C c0 m0 b1 (RC (v, c1, b1)) fm Ok Pn) : OUT C c0 m0 b (Option.bind fe fun p => cd_ck sF (p.2.2) <| RC p) fm Ok Pn := by
  rw [h, bs_some]
  exact (out_ck hok).low hb
theorem op_em {C : Nat × Nat} {c0 : cd_S} {b b1 : cd_B} {fe : Option (Int32 × cd_S × cd_B)} {v : Int32} {c1 : cd_S} {pl : Nat} {Pn : cd_S → cd_B → Prop} {RC : Int32 × cd_S × cd_B → Option Th} (h : fe = some (v, c1, b1)) (hb : ble b1 b) (hok : OP C c0 b1 (RC (v, c1, b1)) pl Pn) : OP C c0 b (Option.bind fe fun p => cd_ck sF (p.2.2) <| RC p) pl Pn := by
  rw [h, bs_some]
  exact (op_ck hok).low hb
theorem outl_em {C : Nat × Nat} {c0 : cd_S} {m0 : md_S} {b b1 : cd_B} {fe : Option (Int32 × cd_S × cd_B)} {v : Int32} {c1 : cd_S} {fm : Option md_S} {Ok : cd_S → cd_B → md_S → Prop} {Pn : cd_S → cd_B → Prop} {RC : Int32 × cd_S × cd_B → Option Lp} (h : fe = some (v, c1, b1)) (hb : ble b1 b) (hok : OUTL C c0 m0 b1 (RC (v, c1, b1)) fm Ok Pn) : OUTL C c0 m0 b (Option.bind fe fun p => cd_ck lF (p.2.2) <| RC p) fm Ok Pn := by
  rw [h, bs_some]
  exact (outl_ck hok).low hb
theorem opl_em {C : Nat × Nat} {c0 : cd_S} {b b1 : cd_B} {fe : Option (Int32 × cd_S × cd_B)} {v : Int32} {c1 : cd_S} {pl : Nat} {Pn : cd_S → cd_B → Prop} {RC : Int32 × cd_S × cd_B → Option Lp} (h : fe = some (v, c1, b1)) (hb : ble b1 b) (hok : OPL C c0 b1 (RC (v, c1, b1)) pl Pn) : OPL C c0 b (Option.bind fe fun p => cd_ck lF (p.2.2) <| RC p) pl Pn := by
  rw [h, bs_some]
  exact (opl_ck hok).low hb
theorem c_now {c : cd_S} {u : Nat} (h : cP c 136 0 = u + 1) (hu : u < 60) : cd_dp c 136 0 = some u := by
  have hp : cd_pool (cd_oc 136) = 60 := by decide
  have : c.2.2.2.2.1 136 0 = u + 1 := h
  unfold cd_dp
  rw [this, hp, if_pos ⟨by omega, by omega⟩, Nat.add_sub_cancel]
theorem c_meth {c : cd_S} {u : Nat} (h : cP c 135 0 = u + 1) (hu : u < 60) : cd_dp c 135 0 = some u := by
  have hp : cd_pool (cd_oc 135) = 60 := by decide
  have : c.2.2.2.2.1 135 0 = u + 1 := h
  unfold cd_dp
  rw [this, hp, if_pos ⟨by omega, by omega⟩, Nat.add_sub_cancel]
/-- part and countsPart in step -/
theorem part_ok {n : Nat} {C : Nat × Nat} {B : Nat → Int32} {N : Nat} {c : cd_S} {m : md_S} {b : cd_B} {w : WD} {L : List WD} {p : Nat} (hC : BC C) (hB : Bd C c b) (h : LX B N c m w L) (hp : p ≤ 400) (h1 : cI c 138 0 = nI p) (h2 : mI m 62 = nI p) :
    (p < 400 ∧ f_X4_part n c b = some (Sum.inl (0, cSI c 138 0 (nI (p + 1)), b)) ∧ f_X12_countsPart n m = some (1, mSI m 62 (nI (p + 1)))) ∨
    (∃ c' b' m', f_X4_part n c b = some (Sum.inr (c', b')) ∧ f_X12_countsPart n m = some (0, m') ∧ THR C c c' b b' 4 (wF w) ∧ md_fr [6, 7, 8, 62] m m' ∧ NF m' 4 (wF w)) := by
  unfold f_X4_part f_X4_part_J16 f_X12_countsPart f_X12_countsPart_J22
  rw [h1, m_fine, bs_some, if_pos h.fine]
  dsimp only
  rw [if_neg ne10, h2]
  by_cases hp4 : p = 400
  · right
    obtain ⟨c', b', e1, e2⟩ := c_room0 (n := n) hC hB h.k.2.1
    obtain ⟨m', f1, f2, f3⟩ := m_failsW (n := n) (k := 4) h (by decide) (by decide)
    have hff : md_fr [62] m' (mSI m' 62 (mI m' 62 + 1)) := md_fr_SI (md_fr_refl _ _) (by decide) _
    refine ⟨c', b', mSI m' 62 (mI m' 62 + 1), ?_, ?_, e2, md_fr_tr f2 hff (fun k hk => ⟨fun y => hk (by simp at y; simp; omega), fun y => hk (by simp at y; simp; omega)⟩), f3.fr hff (by decide) (by decide)⟩
    · rw [if_pos (show (400 : Int32) ≤ nI p by rw [hp4]; decide)]
      refine c_ck ?_ e2.2.2.2.1 e2.2.2.2.2.1
      rw [e1, bs_some]
      exact c_ck rfl (Nat.le_refl _) (Nat.le_refl _)
    · rw [if_pos (show nI p = 400 by rw [hp4]; rfl), show f_X12_fails n m 4 = _ from f1, bs_some, bs_some]
      dsimp only
      rw [nf_isFine (f3.fr hff (by decide) (by decide)), bs_some]
      rfl
  · left
    refine ⟨by omega, ?_, ?_⟩
    · rw [if_neg (show ¬ (400 : Int32) ≤ nI p from fun y => absurd ((nI_leI (a := 400) (by decide) (by omega)).mp y) (by omega))]
      refine c_ck ?_ (Nat.le_refl _) (Nat.le_refl _)
      rw [c_room1, bs_some]
      refine c_ck ?_ (Nat.le_refl _) (Nat.le_refl _)
      dsimp only [Sum.elim]
      rw [bs_some, h1, nI_1]
    · rw [if_neg (show ¬ nI p = 400 from fun y => hp4 ((nI_eq (b := 400) (by omega) (by decide)).mp y)), bs_some]
      rw [m_fine, bs_some, nI_1, mI_SIo (by decide), if_pos h.fine]
      rfl
theorem nf_part {n : Nat} {m : md_S} {k pl : Nat} (h : NF m k pl) : ∃ m', f_X12_countsPart n m = some (0, m') ∧ md_fr [62] m m' ∧ NF m' k pl := by
  have hff : md_fr [62] m (mSI m 62 (mI m 62 + 1)) := md_fr_SI (md_fr_refl _ _) (by decide) _
  refine ⟨_, ?_, hff, h.fr hff (by decide) (by decide)⟩
  unfold f_X12_countsPart f_X12_countsPart_J22
  rw [nf_isFine h, bs_some]
  dsimp only
  rw [if_pos rfl, bs_some]
  rw [nf_isFine (h.fr hff (by decide) (by decide)), bs_some]
  rfl
/-- a new node -/
def ndm (m : md_S) (i : Nat) (k x y : Int32) : md_S := mSA (mSA (mSA (mSA (mSA (mSA (mSA (mSI m 65 (nI (i + 1))) 66 i k) 67 i (mI m 64)) 68 i x) 69 i y) 70 i (-1)) 71 i (-1)) 72 i (-1)
theorem m_node {n : Nat} {m : md_S} {i : Nat} {k x y : Int32} (h : mI m 65 = nI i) (hi : i < 900) : f_X12_node n m k x y = some (nI i, ndm m i k x y) := by
  unfold f_X12_node
  rw [bs_some, h, m_st66 hi, bs_some, m_st67 hi, bs_some, m_st68 hi, bs_some, m_st69 hi, bs_some, m_st70 hi, bs_some, m_st71 hi, bs_some, m_st72 hi, bs_some, nI_1]
  rfl
theorem ndm_fr (m : md_S) (i : Nat) (k x y : Int32) : md_fr [65, 66, 67, 68, 69, 70, 71, 72] m (ndm m i k x y) :=
  md_fr_SA (md_fr_SA (md_fr_SA (md_fr_SA (md_fr_SA (md_fr_SA (md_fr_SA (md_fr_SI (md_fr_refl _ _) (by decide) _) (by decide) _ _) (by decide) _ _) (by decide) _ _) (by decide) _ _) (by decide) _ _) (by decide) _ _) (by decide) _ _
theorem ndm_65 (m : md_S) (i : Nat) (k x y : Int32) : mI (ndm m i k x y) 65 = nI (i + 1) := by
  unfold ndm; rw [mI_SA, mI_SA, mI_SA, mI_SA, mI_SA, mI_SA, mI_SA, mI_SIe]
theorem ndm_o {m : md_S} {i : Nat} {k x y : Int32} {f j : Nat} (h : j ≠ i) : mA (ndm m i k x y) f j = mA m f j := by
  have e : ∀ (s : md_S) (g : Nat) (v : Int32), mA (mSA s g i v) f j = mA s f j := fun s g v => by
    by_cases hg : f = g
    · subst hg; exact mA_SAi h
    · exact mA_SAo hg
  unfold ndm
  rw [e, e, e, e, e, e, e]; rfl
theorem ndm_e (m : md_S) (i : Nat) (k x y : Int32) : mA (ndm m i k x y) 66 i = k ∧ mA (ndm m i k x y) 67 i = mI m 64 ∧ mA (ndm m i k x y) 68 i = x ∧ mA (ndm m i k x y) 69 i = y ∧ mA (ndm m i k x y) 70 i = -1 ∧ mA (ndm m i k x y) 71 i = -1 ∧ mA (ndm m i k x y) 72 i = -1 := by
  unfold ndm
  refine ⟨?_, ?_, ?_, ?_, ?_, ?_, ?_⟩
  · rw [mA_SAo (by decide), mA_SAo (by decide), mA_SAo (by decide), mA_SAo (by decide), mA_SAo (by decide), mA_SAo (by decide), mA_SAe]
  · rw [mA_SAo (by decide), mA_SAo (by decide), mA_SAo (by decide), mA_SAo (by decide), mA_SAo (by decide), mA_SAe]
  · rw [mA_SAo (by decide), mA_SAo (by decide), mA_SAo (by decide), mA_SAo (by decide), mA_SAe]
  · rw [mA_SAo (by decide), mA_SAo (by decide), mA_SAo (by decide), mA_SAe]
  · rw [mA_SAo (by decide), mA_SAo (by decide), mA_SAe]
  · rw [mA_SAo (by decide), mA_SAe]
  · rw [mA_SAe]
/-- next sibling and parent stay -/
def S7 (m m' : md_S) (j : Nat) : Prop := mA m' 71 j = mA m 71 j ∧ mA m' 72 j = mA m 72 j
theorem S7.tr {m m1 m2 : md_S} {j : Nat} (h : S7 m m1 j) (h2 : S7 m1 m2 j) : S7 m m2 j := ⟨h2.1.trans h.1, h2.2.trans h.2⟩
/-- siblings from a value on -/
def SB (m : md_S) : Int32 → List Nat → Prop
  | v, [] => v = -1
  | v, x :: l => v = nI x ∧ x < 900 ∧ SB m (mA m 71 x) l
theorem SB.to {m m' : md_S} : ∀ {l : List Nat} {v : Int32}, SB m v l → (∀ x, x ∈ l → mA m' 71 x = mA m 71 x) → SB m' v l
  | [], _, h, _ => h
  | x :: l, _, ⟨h1, h2, h3⟩, hx => ⟨h1, h2, by rw [hx x (by simp)]; exact SB.to h3 (fun y hy => hx y (by simp [hy]))⟩
theorem SB.app {m : md_S} {x ch : Nat} (hch : ch < 900) (h71 : mA m 71 ch = -1) (hne : ch ≠ x) : ∀ {l : List Nat} {v : Int32}, SB m v (l ++ [x]) → x ∉ l → SB (mSA m 71 x (nI ch)) v (l ++ [x] ++ [ch])
  | [], v, ⟨h1, h2, h3⟩, _ => ⟨h1, h2, by rw [mA_SAe]; exact ⟨rfl, hch, by rw [mA_SAi hne]; exact h71⟩⟩
  | y :: l, v, ⟨h1, h2, h3⟩, hx => ⟨h1, h2, by
      rw [mA_SAi (fun e => hx (by rw [e]; simp))]
      exact SB.app hch h71 hne h3 (fun e => hx (by simp [e]))⟩
theorem m_getsL {n : Nat} {a2 : Int32} {m : md_S} {x : Nat} : ∀ {l : List Nat} {v : Int32} {j : Nat}, SB m v (l ++ [x]) → l.length < j → f_X12_gets_L35 n a2 j m v = some (m, nI x)
  | [], v, j, ⟨h1, h2, h3⟩, hj => by
      obtain ⟨j, rfl⟩ : ∃ i, j = i + 1 := ⟨j - 1, by simp at hj; omega⟩
      rw [u_X12_gets_L35, h1, m_ld71 h2, bs_some, if_pos (show mA m 71 x = -1 from h3)]
  | y :: l, v, j, ⟨h1, h2, h3⟩, hj => by
      obtain ⟨j, rfl⟩ : ∃ i, j = i + 1 := ⟨j - 1, by simp at hj; omega⟩
      have hne : ¬ mA m 71 y = -1 := by
        intro e
        cases l with
        | nil => exact nI_m1 (a := x) (by have := h3.2.1; omega) (h3.1.symm.trans e)
        | cons z l => exact nI_m1 (a := z) (by have := h3.2.1; omega) (h3.1.symm.trans e)
      rw [u_X12_gets_L35, h1, m_ld71 h2, bs_some, if_neg hne, bs_some]
      exact m_getsL h3 (by simp at hj; omega)
/-- children of a node -/
def CH (m : md_S) (p : Nat) (l : List Nat) : Prop := SB m (mA m 70 p) l ∧ l.Nodup ∧ ∀ x, x ∈ l → mA m 72 x = nI p
theorem m_gets {n : Nat} {m : md_S} {p ch : Nat} {l : List Nat} (h6 : mI m 6 = 0) (hp : p < 900) (hch : ch < 900) (hl : l.length < n) (h : CH m p l) (h71 : mA m 71 ch = -1) (hne : ch ∉ l) : ∃ m', f_X12_gets n m (nI p) (nI ch) = some (0, m') ∧ CH m' p (l ++ [ch]) ∧ md_fr [70, 71, 72] m m' ∧ (∀ j, j ≠ p → mA m' 70 j = mA m 70 j) ∧ (∀ j, j ∉ l → mA m' 71 j = mA m 71 j) ∧ (∀ j, j ≠ ch → mA m' 72 j = mA m 72 j) := by
  unfold f_X12_gets
  rw [m_fine, bs_some, if_pos h6]
  dsimp only
  rw [if_neg (by decide), m_st72 hch, bs_some, m_ld70 hp, bs_some, mA_SAo (by decide)]
  rcases List.eq_nil_or_concat l with rfl | ⟨l', x, rfl⟩
  · have h70 : mA m 70 p = -1 := h.1
    rw [if_pos h70, m_st70 hp, bs_some]
    refine ⟨_, rfl, ⟨?_, by simp, fun x hx => by rw [List.mem_singleton.mp hx, mA_SAo (by decide), mA_SAe]⟩, md_fr_SA (md_fr_SA (md_fr_refl _ _) (by decide) _ _) (by decide) _ _, fun j hj => ?_, fun j _ => ?_, fun j hj => ?_⟩
    · show SB _ _ [ch]
      rw [mA_SAe]
      exact ⟨rfl, hch, by rw [mA_SAo (by decide), mA_SAo (by decide)]; exact h71⟩
    · rw [mA_SAi hj, mA_SAo (by decide)]
    · rw [mA_SAo (by decide), mA_SAo (by decide)]
    · rw [mA_SAo (by decide), mA_SAi hj]
  · rw [List.concat_eq_append] at h hne hl ⊢
    obtain ⟨hs, hnd, h72⟩ := h
    have hne70 : ¬ mA m 70 p = -1 := by
      intro e
      cases l' with
      | nil => exact nI_m1 (a := x) (by have := hs.2.1; omega) (hs.1.symm.trans e)
      | cons z l => exact nI_m1 (a := z) (by have := hs.2.1; omega) (hs.1.symm.trans e)
    have hs2 : SB (mSA m 72 ch (nI p)) (mA m 70 p) (l' ++ [x]) := hs.to (fun y _ => mA_SAo (by decide))
    have hx9 : x < 900 := by
      have : ∀ (l : List Nat) (v : Int32), SB m v (l ++ [x]) → x < 900 := by
        intro l
        induction l with
        | nil => intro v hv; exact hv.2.1
        | cons y l ih => intro v hv; exact ih _ hv.2.2
      exact this _ _ hs
    have hxl : x ∉ l' := by
      rw [List.nodup_append] at hnd
      exact fun e => hnd.2.2 x e x (by simp) rfl
    have hcx : ch ≠ x := fun e => hne (by rw [e]; simp)
    rw [if_neg hne70, m_getsL hs2 (by simp at hl; omega), bs_some]
    dsimp only
    rw [m_st71 hx9, bs_some]
    refine ⟨_, rfl, ⟨?_, ?_, fun y hy => ?_⟩, md_fr_SA (md_fr_SA (md_fr_refl _ _) (by decide) _ _) (by decide) _ _, fun j hj => ?_, fun j hj => ?_, fun j hj => ?_⟩
    · rw [mA_SAo (by decide), mA_SAo (by decide)]
      exact SB.app hch (by rw [mA_SAo (by decide)]; exact h71) hcx hs2 hxl
    · rw [List.nodup_append]
      refine ⟨hnd, by simp, fun a ha b hb => ?_⟩
      rw [List.mem_singleton.mp hb]
      exact fun e => hne (by rw [← e]; exact ha)
    · rw [mA_SAo (by decide)]
      rcases List.mem_append.mp hy with hy | hy
      · rw [mA_SAi (fun e => hne (by rw [← e]; exact hy))]; exact h72 y hy
      · rw [List.mem_singleton.mp hy, mA_SAe]
    · rw [mA_SAo (by decide), mA_SAo (by decide)]
    · rw [mA_SAi (fun e => hj (by rw [e]; simp)), mA_SAo (by decide)]
    · rw [mA_SAo (by decide), mA_SAi hj]
theorem nf_gets {n : Nat} {m : md_S} {k pl : Nat} (h : NF m k pl) (x y : Int32) : f_X12_gets n m x y = some (0, m) := by
  unfold f_X12_gets; rw [nf_isFine h, bs_some]; rfl
