/-! may, in the class -/
def CYC (c : cd_S) (m : md_S) : Prop := NS c m (mN m 35) ∧ ∀ u, u < mN m 35 → cI c 288 u = nI u ∧ cI c 296 u = mA m 42 u ∧ cI c 291 u = nI (dmU m u)
def FC (c0 c : cd_S) : Prop := cd_fr [257, 258, 259] [] c0 c
theorem CYC.fr {c c' : cd_S} {m : md_S} (h : CYC c m) (hf : FC c c') : CYC c' m := by
  obtain ⟨⟨a1, a2, a3, a4, a5, a6, a7, a8, a9⟩, hb⟩ := h
  refine ⟨⟨by rw [cd_frI hf (by decide) (by decide)]; exact a1, a2, a3, fun u hu => ?_, a5.to (CE.of hf (by decide)) (ME.refl _ _) (Nat.le_refl _), a6, fun u hu => ?_, a8, fun u hu => ?_⟩, fun u hu => ?_⟩
  · rw [cd_frI hf (by decide) (by decide), cd_frI hf (by decide) (by decide), cd_frJ hf (by decide) (by decide)]; exact a4 u hu
  · obtain ⟨es, ns, b1, b2⟩ := a7 u hu
    exact ⟨es, ns, b1.fr hf (by simp), b2⟩
  · obtain ⟨g, g1, g2, g3⟩ := a9 u hu
    exact ⟨g, g1, by rw [cd_frI hf (by decide) (by decide)]; exact g2, g3.fr hf (by decide)⟩
  · rw [cd_frI hf (by decide) (by decide), cd_frI hf (by decide) (by decide), cd_frI hf (by decide) (by decide)]; exact hb u hu
theorem FC.tr {a b c : cd_S} (h : FC a b) (h2 : FC b c) : FC a c := cd_fr_tr h h2 (fun _ q => ⟨q, q⟩) (fun _ q => ⟨q, q⟩)
theorem FC.refl (c : cd_S) : FC c c := cd_fr_refl _ _ _
def VC (m : md_S) (c : cd_S) : Nat → Int32 := VV (mN m 35) (cAr c 257 0) (cI c 258 0)
def mtB (m : md_S) (x : Int32) (v : Nat) (y : Int32) : Int32 := if bt x (dmU m v) = true then y else if y = 0 then 0 else 2
theorem c_meet {n v : Nat} {c : cd_S} {m : md_S} {x y : Int32} (hc : CYC c m) (hd : dmU m v < 8) (hv : v < mN m 35) : f_X8_meetOf n c y v x = some (mtB m x v y, c) := by
  unfold f_X8_meetOf f_X8_meetOf_J16 f_X8_meetOf_J25 mtB
  rw [(hc.2 v hv).2.2, bt_c (by omega)]
  by_cases q : bt x (dmU m v) = true
  · rw [if_pos q, if_pos q, if_neg ne10, if_neg ne10]
  · rw [if_neg q, if_neg q, if_pos rfl, if_pos rfl]
    by_cases q2 : y = 0
    · rw [if_pos q2, if_pos q2, q2]
    · rw [if_neg q2, if_neg q2]
theorem mtB_q {m : md_S} {x y : Int32} {v : Nat} (hy : y ∈ q4) : mtB m x v y ∈ q4 := by
  unfold mtB
  split
  · exact hy
  · split <;> decide
theorem nz4 : ∀ y, y ∈ q4 → ¬ y = 0 → (¬ y &&& 1 = 0) ∨ ¬ y &&& 2 = 0 := by decide
theorem zb4 : ∀ b, b ∈ ([1, 2] : List Int32) → ∀ y, y ∈ q4 → ¬ y &&& b = 0 → ¬ y = 0 := by decide
/-- which ways are in what meets -/
theorem mtB_of {m : md_S} {x y b' : Int32} {v : Nat} (hy : y ∈ q4) (h12 : b' = 1 ∨ b' = 2) (h : hb (mtB m x v y) b') : ∃ b, (b = 1 ∨ b = 2) ∧ hb y b ∧ ow m x v b = b' := by
  unfold mtB at h
  by_cases q : bt x (dmU m v) = true
  · rw [if_pos q] at h
    refine ⟨b', h12, h, ?_⟩
    unfold ow
    rcases h12 with rfl | rfl
    · rw [if_pos ⟨rfl, q⟩]
    · rw [if_neg (fun z => absurd z.1 (by decide))]
  · rw [if_neg q] at h
    have e : ∀ b, ow m x v b = 2 := fun b => by unfold ow; rw [if_neg (fun z => q z.2)]
    by_cases q0 : y = 0
    · rw [if_pos q0] at h
      rcases h12 with rfl | rfl <;> exact absurd (by decide) h
    · rw [if_neg q0] at h
      have e2 : b' = 2 := by
        rcases h12 with rfl | rfl
        · exact absurd (show (2 : Int32) &&& 1 = 0 by decide) h
        · rfl
      rcases nz4 y hy q0 with z | z
      · exact ⟨1, Or.inl rfl, z, by rw [e, e2]⟩
      · exact ⟨2, Or.inr rfl, z, by rw [e, e2]⟩
theorem mtB_to {m : md_S} {x y b : Int32} {v : Nat} (hy : y ∈ q4) (h12 : b = 1 ∨ b = 2) (h : hb y b) : hb (mtB m x v y) (ow m x v b) := by
  unfold mtB ow
  by_cases q : bt x (dmU m v) = true
  · rw [if_pos q]
    rcases h12 with rfl | rfl
    · rw [if_pos ⟨rfl, q⟩]; exact h
    · rw [if_neg (fun z => absurd z.1 (by decide))]; exact h
  · rw [if_neg q, if_neg (zb4 b (b12 h12).1 y hy h), if_neg (fun z => q z.2)]
    unfold hb
    decide
/-- a unit meets ways y -/
theorem c_addP {P : Int32 → Prop} {n v : Nat} {c : cd_S} {m : md_S} {x y : Int32} {M : Nat → Int32 → Prop} (hc : CYC c m) (h60 : mN m 35 ≤ 60) (hd : dmU m v < 8) (hv : v < mN m 35) (hy : y ∈ q4) (hS : SV M (VC m c)) (hP : P 1) (hf1 : P (cI c 259 0)) (hM : ∀ b, b = 1 ∨ b = 2 → hb y b → M v (ow m x v b)) : ∃ c', (∀ {α : Type} (k : cd_S → Option α), (Option.bind (f_X8_meetOf n c y v x) fun p => Option.bind (f_X8_addMay n p.2 v p.1) fun p2 => k p2.2) = k c') ∧ FC c c' ∧ P (cI c' 259 0) ∧ MVs M (VC m c) (cI c 259 0) (VC m c') (cI c' 259 0) (∀ b, b = 1 ∨ b = 2 → hb y b → SVs (VC m c) v (ow m x v b)) ∧ ∀ b, b = 1 ∨ b = 2 → hb y b → SVs (VC m c') v (ow m x v b) := by
  have eV : VC m c v = cAr c 257 0 v := VV_u hv
  have hq := hS.1 v (by omega)
  have hmq : mtB m x v y ∈ q4 := mtB_q hy
  have hMm : ∀ b, b = 1 ∨ b = 2 → hb (mtB m x v y) b → M v b := fun b h1 h2 => by
    obtain ⟨b0, z1, z2, z3⟩ := mtB_of hy h1 h2
    rw [← z3]; exact hM b0 z1 z2
  have hK : VC m c v ||| mtB m x v y = VC m c v → ∀ b, b = 1 ∨ b = 2 → hb y b → SVs (VC m c) v (ow m x v b) := fun h b h1 h2 => ⟨by omega, or_hb hq hmq h (ow12 m x v b) (mtB_to hy h1 h2)⟩
  have n0 : ¬ nI v < 0 := nI_nn (by omega)
  have n6 : ¬ (60 : Int32) ≤ nI v := fun z => absurd ((nI_leI (a := 60) (by decide) (by omega)).mp z) (by omega)
  by_cases q : VC m c v ||| mtB m x v y = VC m c v
  · refine ⟨c, fun k => ?_, FC.refl c, hf1, MVs.refl hS (hK q), hK q⟩
    rw [c_meet hc hd hv, bs_some]
    dsimp only
    unfold f_X8_addMay
    rw [eV] at q
    rw [(hc.2 v hv).1, if_neg n0, if_neg n6, c_ld257 (by omega), bs_some, bs_some, if_pos q, bs_some]
  · refine ⟨cSI (cSA c 257 0 v (cAr c 257 0 v ||| mtB m x v y)) 259 0 1, fun k => ?_, cd_fr_SI (cd_fr_SA (cd_fr_refl _ _ _) (by simp) _ _ _) (by simp) (by decide) _ _, by rw [cI_SIe]; exact hP, ?_, fun b h1 h2 => ⟨by omega, fun z => ?_⟩⟩
    · rw [c_meet hc hd hv, bs_some]
      dsimp only
      unfold f_X8_addMay
      rw [eV] at q
      rw [(hc.2 v hv).1, if_neg n0, if_neg n6, c_ld257 (by omega), bs_some, bs_some, if_neg q, bs_some, c_st257 (by omega), bs_some, bs_some, bs_some]
    · refine (MVs.add hS hmq (by omega) hMm (fun w hw => ?_) ?_ (fun z => absurd z q) (fun _ => cI_SIe)).imp hK
      · unfold VC VV
        by_cases z : w < mN m 35
        · rw [if_pos z, if_pos z, cA_SI, cA_SAi hw]
        · rw [if_neg z, if_neg z, cI_SIo (by decide), cI_SA]
      · rw [eV]
        refine (VV_u hv).trans ?_
        rw [cA_SI, cA_SAe]
    · have e : VC m (cSI (cSA c 257 0 v (cAr c 257 0 v ||| mtB m x v y)) 259 0 1) v = cAr c 257 0 v ||| mtB m x v y := (VV_u hv).trans (by rw [cA_SI, cA_SAe])
      rw [e] at z
      rw [eV] at hq
      exact mtB_to hy h1 h2 ((or4b _ hq _ hmq _ (b12 (ow12 m x v b)).1).mp z).2
theorem c_add1 {n v : Nat} {c : cd_S} {m : md_S} {x y : Int32} {M : Nat → Int32 → Prop} (hc : CYC c m) (h60 : mN m 35 ≤ 60) (hd : dmU m v < 8) (hv : v < mN m 35) (hy : y ∈ q4) (hS : SV M (VC m c)) (hf1 : cI c 259 0 = 0 ∨ cI c 259 0 = 1) (hM : ∀ b, b = 1 ∨ b = 2 → hb y b → M v (ow m x v b)) : ∃ c', (∀ {α : Type} (k : cd_S → Option α), (Option.bind (f_X8_meetOf n c y v x) fun p => Option.bind (f_X8_addMay n p.2 v p.1) fun p2 => k p2.2) = k c') ∧ FC c c' ∧ (cI c' 259 0 = 0 ∨ cI c' 259 0 = 1) ∧ MVs M (VC m c) (cI c 259 0) (VC m c') (cI c' 259 0) (∀ b, b = 1 ∨ b = 2 → hb y b → SVs (VC m c) v (ow m x v b)) ∧ ∀ b, b = 1 ∨ b = 2 → hb y b → SVs (VC m c') v (ow m x v b) :=
  c_addP (P := fun z => z = 0 ∨ z = 1) hc h60 hd hv hy hS (Or.inr rfl) hf1 hM
/-- what a part of a unit leads to -/
def PRT (m : md_S) (x : Int32) (S : Nat → Int32 → Prop) (v : Nat) (b : Int32) : Prop :=
  (mA m 36 v = 4 → ∀ w, w = 1 ∨ w = 2 → S 60 w → S v (ow m x v w)) ∧ (mA m 36 v = 2 → S v (ow m x v 1)) ∧ (mA m 36 v = 3 → S v (ow m x v (if bt x (8 + aN m 42 v) = true then 1 else b)))
def RULe (m : md_S) (x : Int32) (S : Nat → Int32 → Prop) (e : EN) (b : Int32) : Prop :=
  (∀ v, v < mN m 35 → BG m e.1 e.2.1 e.2.2 v → S v (ow m x v b)) ∧ (e.1 = 27 → S 60 b) ∧ (e.1 = 10 → PRT m x S (oN e.2.1) b)
theorem RULe.iff {m : md_S} {x : Int32} {S : Nat → Int32 → Prop} {j : Nat} {b : Int32} : RUL m x S j b ↔ RULe m x S (nE m j) b := Iff.rfl
theorem hb1 {b : Int32} (h12 : b = 1 ∨ b = 2) (h : hb 1 b) : b = 1 := by
  rcases h12 with rfl | rfl
  · rfl
  · exact absurd (show (1 : Int32) &&& 2 = 0 by decide) h
theorem hb11 : hb 1 1 := by unfold hb; decide
theorem c_part {n v : Nat} {c : cd_S} {m : md_S} {x y : Int32} {M : Nat → Int32 → Prop} (hc : CYC c m) (hm : MYC m) (hv : v < mN m 35) (hsp : SP m v) (hy : y ∈ q4) (hy0 : ¬ y = 0) (hS : SV M (VC m c)) (hf1 : cI c 259 0 = 0 ∨ cI c 259 0 = 1) (hM : ∀ b, b = 1 ∨ b = 2 → hb y b → PRT m x M v b) : ∃ c', f_X8_spreadPart n c v y x = some (0, c') ∧ FC c c' ∧ (cI c' 259 0 = 0 ∨ cI c' 259 0 = 1) ∧ MVs M (VC m c) (cI c 259 0) (VC m c') (cI c' 259 0) (∀ b, b = 1 ∨ b = 2 → hb y b → PRT m x (SVs (VC m c)) v b) := by
  have h60 := hm.1.2.1
  obtain ⟨d, -, -, -, hd⟩ := hm.dm hv
  have e289 : cI c 289 v = mA m 36 v := (hc.1.2.2.2.1 v hv).1
  obtain ⟨b0, z1, z2⟩ : ∃ b, (b = 1 ∨ b = 2) ∧ hb y b := by
    rcases nz4 y hy hy0 with z | z
    · exact ⟨1, Or.inl rfl, z⟩
    · exact ⟨2, Or.inr rfl, z⟩
  have one : M v (ow m x v 1) → ∃ c', (Option.bind (f_X8_meetOf n c 1 v x) fun p => Option.bind (f_X8_addMay n p.2 v p.1) fun p2 => some ((0 : Int32), p2.2)) = some (0, c') ∧ FC c c' ∧ (cI c' 259 0 = 0 ∨ cI c' 259 0 = 1) ∧ MVs M (VC m c) (cI c 259 0) (VC m c') (cI c' 259 0) (SVs (VC m c) v (ow m x v 1)) := fun h => by
    obtain ⟨c', k1, k2, k3, k4, -⟩ := c_add1 (n := n) (x := x) (y := 1) hc h60 hd hv (by decide) hS hf1 (fun b h1 h2 => by rw [hb1 h1 h2]; exact h)
    exact ⟨c', k1 (fun c => some ((0 : Int32), c)), k2, k3, k4.imp (fun w => w 1 (Or.inl rfl) hb11)⟩
  unfold f_X8_spreadPart f_X8_spreadPart_J49 f_X8_spreadPart_J63
  rw [e289]
  by_cases q2 : mA m 36 v = 2
  · rw [if_pos q2]
    obtain ⟨c', k1, k2, k3, k4⟩ := one ((hM b0 z1 z2).2.1 q2)
    refine ⟨c', k1, k2, k3, k4.imp (fun w b _ _ => ⟨fun q => absurd (q2.symm.trans q) (by decide), fun _ => w, fun q => absurd (q2.symm.trans q) (by decide)⟩)⟩
  rw [if_neg q2]
  by_cases q3 : mA m 36 v = 3
  · obtain ⟨l, l1, l2⟩ := hm.2.2.1 v hv q3
    have el : aN m 42 v = l := aN_of l2 (by omega)
    rw [if_pos q3, (hc.2 v hv).2.1, l2, show (8 : Int32) = nI 8 from rfl, nI_add, bt_c (by omega)]
    by_cases qb : bt x (8 + l) = true
    · rw [if_pos qb, if_neg ne10, if_neg ne10]
      have h0 := (hM b0 z1 z2).2.2 q3
      rw [el, if_pos qb] at h0
      obtain ⟨c', k1, k2, k3, k4⟩ := one h0
      refine ⟨c', k1, k2, k3, k4.imp (fun w b _ _ => ⟨fun q => absurd (q3.symm.trans q) (by decide), fun q => absurd q q2, fun _ => ?_⟩)⟩
      rw [el, if_pos qb]; exact w
    · rw [if_neg qb, if_pos rfl, if_pos rfl]
      obtain ⟨c', k1, k2, k3, k4, -⟩ := c_add1 (n := n) (x := x) (y := y) hc h60 hd hv hy hS hf1 (fun b h1 h2 => by
        have h0 := (hM b h1 h2).2.2 q3
        rw [el, if_neg qb] at h0
        exact h0)
      refine ⟨c', k1 (fun c => some ((0 : Int32), c)), k2, k3, k4.imp (fun w b h1 h2 => ⟨fun q => absurd (q3.symm.trans q) (by decide), fun q => absurd q q2, fun _ => ?_⟩)⟩
      rw [el, if_neg qb]; exact w b h1 h2
  rw [if_neg q3]
  have q4' : mA m 36 v = 4 := by
    rcases hsp with z | z | z
    · exact absurd z q2
    · exact absurd z q3
    · exact z
  have eV : VC m c 60 = cI c 258 0 := VV_z h60
  have hq6 := hS.1 60 (Nat.le_refl _)
  rw [eV] at hq6
  obtain ⟨c', k1, k2, k3, k4, -⟩ := c_add1 (n := n) (x := x) (y := cI c 258 0) hc h60 hd hv hq6 hS hf1 (fun b h1 h2 => (hM b0 z1 z2).1 q4' b h1 (hS.2 60 b (Nat.le_refl _) h1 (by rw [eV]; exact h2)))
  refine ⟨c', k1 (fun c => some ((0 : Int32), c)), k2, k3, k4.imp (fun w b h1 h2 => ⟨fun _ b' g1 g2 => w b' g1 (by have := g2.2; rw [eV] at this; exact this), fun q => absurd q q2, fun q => absurd q q3⟩)⟩
/-- a group -/
theorem c_sgL {n g : Nat} {m : md_S} {x y : Int32} {M : Nat → Int32 → Prop} {B : Nat → Prop} (hm : MYC m) (hg : g < mN m 35) (hy : y ∈ q4) (hM : ∀ v, v < mN m 35 → B v → ∀ b, b = 1 ∨ b = 2 → hb y b → M v (ow m x v b)) : ∀ (d j v : Nat) (c : cd_S), v + d = mN m 35 → d < j → CYC c m → (∀ w, w < mN m 35 → (cI c 297 w = nI g ↔ B w)) → SV M (VC m c) → cI c 259 0 = 0 ∨ cI c 259 0 = 1 → ∃ c', f_X8_spreadGroup_L3 n (nI g) y x j c (nI v) = some (c', nI (mN m 35)) ∧ FC c c' ∧ (cI c' 259 0 = 0 ∨ cI c' 259 0 = 1) ∧ MVs M (VC m c) (cI c 259 0) (VC m c') (cI c' 259 0) (∀ w, v ≤ w → w < mN m 35 → B w → ∀ b, b = 1 ∨ b = 2 → hb y b → SVs (VC m c) w (ow m x w b)) := by
  have h60 := hm.1.2.1
  have ng : ¬ nI g = -1 := nI_nem1 (by omega)
  intro d
  induction d with
  | zero =>
    intro j v c hv hjd hc hB hS hf1
    obtain ⟨j, rfl⟩ : ∃ q, j = q + 1 := ⟨j - 1, by omega⟩
    refine ⟨c, ?_, FC.refl c, hf1, MVs.refl hS (fun w h1 h2 => by omega)⟩
    rw [u_X8_spreadGroup_L3, if_neg ng, hc.1.1, show v = mN m 35 by omega, if_pos ((nI_leI (by omega) (by omega)).mpr (Nat.le_refl _))]
  | succ d ih =>
    intro j v c hv hjd hc hB hS hf1
    obtain ⟨j, rfl⟩ : ∃ q, j = q + 1 := ⟨j - 1, by omega⟩
    have hv' : v < mN m 35 := by omega
    obtain ⟨d', -, -, -, hd⟩ := hm.dm hv'
    rw [u_X8_spreadGroup_L3, if_neg ng, hc.1.1, if_neg (fun y => absurd ((nI_leI (by omega) (by omega)).mp y) (by omega)), c_unitAt (by omega), bs_some]
    dsimp only
    unfold f_X8_spreadGroup_J63
    rw [nI_1]
    by_cases q : cI c 297 v = nI g
    · have hb' := (hB v hv').mp q
      rw [if_pos q, c_unitAt (by omega), bs_some]
      dsimp only
      rw [c_unitAt (by omega), bs_some]
      dsimp only
      obtain ⟨c1, k1, k2, k3, k4, -⟩ := c_add1 (n := n) (x := x) (y := y) hc h60 hd hv' hy hS hf1 (hM v hv' hb')
      rw [k1 (fun c => f_X8_spreadGroup_L3 n (nI g) y x j c (nI (v + 1)))]
      obtain ⟨c', b1, b2, b3, b4⟩ := ih j (v + 1) c1 (by omega) (by omega) (hc.fr k2) (fun w hw => by rw [cd_frI k2 (by decide) (by decide)]; exact hB w hw) k4.1 k3
      refine ⟨c', b1, k2.tr b2, b3, (MVs.tr (K2 := fun V => ∀ w, v + 1 ≤ w → w < mN m 35 → B w → ∀ b, b = 1 ∨ b = 2 → hb y b → SVs V w (ow m x w b)) k4 b4).imp (fun z w h1 h2 h3 => ?_)⟩
      by_cases q : w = v
      · rw [q]; exact z.1
      · exact z.2 w (by omega) h2 h3
    · rw [if_neg q]
      obtain ⟨c', b1, b2, b3, b4⟩ := ih j (v + 1) c (by omega) (by omega) hc hB hS hf1
      refine ⟨c', b1, b2, b3, b4.imp (fun z w h1 h2 h3 => ?_)⟩
      by_cases q2 : w = v
      · rw [q2] at h3; exact absurd ((hB v hv').mpr h3) q
      · exact z w (by omega) h2 h3
