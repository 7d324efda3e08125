/-! may, in the model: what goes on from a node -/
theorem ow_hb {m : md_S} {x b : Int32} {v : Nat} {V : Nat → Int32} (hq : V v ∈ q4) (hv : v ≤ 60) (h : V v ||| ow m x v b = V v) : SVs V v (ow m x v b) := by
  have h12 := ow12 m x v b
  refine ⟨hv, or_hb hq (b12 h12).2 h h12 ?_⟩
  rcases h12 with e | e <;> rw [e] <;> unfold hb <;> decide
theorem bg_no {m : md_S} {w a b : Int32} {v : Nat} (h : BG m w a b v) : w = 7 ∨ w = 8 ∨ w = 23 := by
  rcases h with ⟨h, -⟩ | ⟨h, -⟩ | ⟨h, -⟩
  · exact Or.inl h
  · exact Or.inr (Or.inl h)
  · exact Or.inr (Or.inr h)
theorem zb01 {z : Int32} (h : z = 0 ∨ z = 1) : md_zb z = some z := by
  rcases h with rfl | rfl <;> rfl
theorem m_J28 {n jn : Nat} {m σ : md_S} {x b : Int32} {M : Nat → Int32 → Prop} (hn : 100 ≤ n) (hc : MYC m) (hj : jn < mN m 65) (hf : FM m x σ) (hS : SV M (VM m σ)) (hM : ∀ v, v < mN m 35 → BG m (mA m 66 jn) (mA m 68 jn) (mA m 69 jn) v → M v (ow m x v b)) : ∃ z σ', f_X12_goesOn_J28 n σ (nI jn) (aB b) 0 = some (z, σ') ∧ FM m x σ' ∧ (z = 0 ∨ z = 1) ∧ MVs M (VM m σ) 0 (VM m σ') z (∀ v, v < mN m 35 → BG m (mA m 66 jn) (mA m 68 jn) (mA m 69 jn) v → SVs (VM m σ) v (ow m x v b)) := by
  have h60 := hc.1.2.1
  obtain ⟨σ', f', k1, k2, k3, k4⟩ := m_grpL (n := n) hc hj hM (mN m 35) n 0 σ 0 (by omega) (by omega) hf hS (Or.inl rfl)
  refine ⟨f', σ', ?_, k2, k3, k4.imp (fun y w h1 h2 => ow_hb (hS.1 w (by omega)) (by omega) (y w (by omega) h1 h2))⟩
  unfold f_X12_goesOn_J28
  rw [show f_X12_goesOn_L31 n (nI jn) (aB b) n σ 0 0 = _ from k1, bs_some]
  dsimp only
  rw [zb01 k3, bs_some]
/-- a unit by the best way -/
theorem m_J276 {n v : Nat} {m σ : md_S} {x : Int32} {M : Nat → Int32 → Prop} (hc : MYC m) (hf : FM m x σ) (hS : SV M (VM m σ)) (hv : v < mN m 35) (hM : M v (ow m x v 1)) : ∃ z σ', f_X12_goesOn_J276 n σ (nI v) = some (z, σ') ∧ FM m x σ' ∧ (z = 0 ∨ z = 1) ∧ MVs M (VM m σ) 0 (VM m σ') z (SVs (VM m σ) v (ow m x v 1)) := by
  have h60 := hc.1.2.1
  obtain ⟨z, σ', e1, e2, e3, e4, -⟩ := m_addOw (n := n) (b := 1) hc hf hS hv hM
  rw [if_neg (show ¬ aB 1 = 0 by decide), m_own hc hf hv, bs_some] at e1
  refine ⟨z, σ', ?_, e2, e3, e4.imp (fun y => ow_hb (hS.1 v (by omega)) (by omega) y)⟩
  unfold f_X12_goesOn_J276 f_X12_goesOn_J281 f_X12_goesOn_J304 f_X12_goesOn_J305
  rw [if_neg ne10, m_own hc hf hv, bs_some]
  dsimp only at e1 ⊢
  by_cases q : (if bt x (dmU m v) = true then (1 : Int32) else 0) = 0
  · rw [if_pos q] at e1 ⊢
    rw [e1, bs_some]
    dsimp only
    rw [zb01 e3, bs_some]
  · rw [if_neg q] at e1 ⊢
    rw [e1, bs_some]
    dsimp only
    rw [zb01 e3, bs_some]
/-- a unit by the other way -/
theorem m_J281 {n v : Nat} {m σ : md_S} {x b : Int32} {M : Nat → Int32 → Prop} (hc : MYC m) (hf : FM m x σ) (hS : SV M (VM m σ)) (hv : v < mN m 35) (hb1 : b ≠ 1) (hM : M v (ow m x v b)) : ∃ z σ', f_X12_goesOn_J281 n σ (nI v) 0 = some (z, σ') ∧ FM m x σ' ∧ (z = 0 ∨ z = 1) ∧ MVs M (VM m σ) 0 (VM m σ') z (SVs (VM m σ) v (ow m x v b)) := by
  have h60 := hc.1.2.1
  obtain ⟨z, σ', e1, e2, e3, e4, -⟩ := m_addOw (n := n) (b := b) hc hf hS hv hM
  have eb : aB b = 0 := by unfold aB; rw [if_neg hb1]
  rw [if_pos eb] at e1
  refine ⟨z, σ', ?_, e2, e3, e4.imp (fun y => ow_hb (hS.1 v (by omega)) (by omega) y)⟩
  unfold f_X12_goesOn_J281 f_X12_goesOn_J304 f_X12_goesOn_J305
  rw [if_pos rfl, e1, bs_some]
  dsimp only
  rw [zb01 e3, bs_some]
/-- what waits -/
theorem m_J113 {n : Nat} {m σ : md_S} {x b : Int32} {M : Nat → Int32 → Prop} (h60 : mN m 35 ≤ 60) (hf : FM m x σ) (hS : SV M (VM m σ)) (h12 : b = 1 ∨ b = 2) (hM : M 60 b) : ∃ z σ', f_X12_goesOn_J113 n σ b = some (z, σ') ∧ FM m x σ' ∧ (z = 0 ∨ z = 1) ∧ MVs M (VM m σ) 0 (VM m σ') z (SVs (VM m σ) 60 b) := by
  have hq := hS.1 60 (Nat.le_refl _)
  have eV : VM m σ 60 = mI σ 84 := VV_z h60
  rw [eV] at hq
  have hc := or4c _ hq b (b12 h12).1
  refine ⟨if mI σ 84 &&& b = 0 then 1 else 0, mSI σ 84 (mI σ 84 ||| b), ?_, ⟨md_fr_tr hf.1 (md_fr_SI (L := [84]) (md_fr_refl _ _) (by simp) _) (fun k hk => ⟨hk, nin (by decide) hk⟩), by rw [mI_SIo (by decide)]; exact hf.2⟩, ?_, ?_⟩
  · unfold f_X12_goesOn_J113 f_X12_goesOn_J130
    by_cases q : mI σ 84 &&& b = 0
    · rw [if_pos q, if_pos q, bs_some, show md_zb 1 = some 1 from rfl, bs_some]
    · rw [if_neg q, if_neg q, bs_some, show md_zb 0 = some 0 from rfl, bs_some]
  · by_cases q : mI σ 84 &&& b = 0
    · rw [if_pos q]; exact Or.inr rfl
    · rw [if_neg q]; exact Or.inl rfl
  · refine (MVs.add hS (b12 h12).2 (Nat.le_refl 60) (fun b' h1 h2 => ?_) (fun w hw => ?_) ?_ (fun q => ?_) (fun q => ?_)).imp (fun y => ⟨Nat.le_refl _, or_hb (hS.1 60 (Nat.le_refl _)) (b12 h12).2 y h12 ?_⟩)
    · have : b' = b := by
        rcases h12 with rfl | rfl <;> rcases h1 with rfl | rfl
        · rfl
        · exact absurd (show (1 : Int32) &&& 2 = 0 by decide) h2
        · exact absurd (show (2 : Int32) &&& 1 = 0 by decide) h2
        · rfl
      rw [this]; exact hM
    · unfold VM VV
      by_cases q : w < mN m 35
      · rw [if_pos q, if_pos q, mA_SI]
      · rw [if_neg q, if_neg q, if_neg hw, if_neg hw]
    · rw [eV]
      exact (VV_z h60).trans mI_SIe
    · rw [eV] at q
      rw [if_neg (hc.mp q)]
    · rw [eV] at q
      rw [if_pos]
      by_cases z : mI σ 84 &&& b = 0
      · exact z
      · exact absurd (hc.mpr z) q
    · rcases h12 with e | e <;> rw [e] <;> unfold hb <;> decide
/-- a unit that is under what waits -/
theorem m_L174 {n v : Nat} {m σ : md_S} {x : Int32} {M : Nat → Int32 → Prop} (hn : 100 ≤ n) (hc : MYC m) (hf : FM m x σ) (hS : SV M (VM m σ)) (hv : v < mN m 35) (hM : ∀ w, w = 1 ∨ w = 2 → M 60 w → M v (ow m x v w)) : ∃ z σ', f_X12_goesOn_L174 n (nI v) n σ 0 1 = some (σ', z, 3) ∧ FM m x σ' ∧ (z = 0 ∨ z = 1) ∧ MVs M (VM m σ) 0 (VM m σ') z (∀ w, w = 1 ∨ w = 2 → SVs (VM m σ) 60 w → SVs (VM m σ) v (ow m x v w)) := by
  have h60 := hc.1.2.1
  obtain ⟨k, rfl⟩ : ∃ k, n = k + 3 := ⟨n - 3, by omega⟩
  have en : ∀ (σ : md_S) (z : Int32), f_X12_goesOn_L174 (k + 3) (nI v) (k + 1) σ z 3 = some (σ, z, 3) := fun σ z => by
    rw [u_X12_goesOn_L174, if_pos (show (3 : Int32) ≤ 3 by decide)]
  -- the first way
  have s1 : ∃ z σ1, f_X12_goesOn_L174 (k + 3) (nI v) (k + 3) σ 0 1 = f_X12_goesOn_L174 (k + 3) (nI v) (k + 2) σ1 z 2 ∧ FM m x σ1 ∧ (z = 0 ∨ z = 1) ∧ MVs M (VM m σ) 0 (VM m σ1) z (SVs (VM m σ) 60 1 → SVs (VM m σ) v (ow m x v 1)) := by
    rw [u_X12_goesOn_L174, if_neg (show ¬ (3 : Int32) ≤ 1 by decide)]
    unfold f_X12_goesOn_J212 f_X12_goesOn_J213 f_X12_goesOn_J219 f_X12_goesOn_J224 f_X12_goesOn_J229
    rw [show (1 : Int32) + 1 = 2 from rfl]
    by_cases q : mI σ 84 &&& 1 = 0
    · rw [if_pos q, if_pos rfl]
      exact ⟨0, σ, rfl, hf, Or.inl rfl, MVs.refl hS (fun y => absurd q (by have := y.2; rw [show VM m σ 60 = mI σ 84 from VV_z h60] at this; exact this))⟩
    · rw [if_neg q, if_pos rfl]
      obtain ⟨z, σ1, e1, e2, e3, e4, -⟩ := m_addOw (n := k + 3) (b := 1) hc hf hS hv (hM 1 (Or.inl rfl) (hS.2 60 1 (Nat.le_refl _) (Or.inl rfl) (by rw [show VM m σ 60 = mI σ 84 from VV_z h60]; exact q)))
      rw [if_neg (show ¬ aB 1 = 0 by decide), m_own hc hf hv, bs_some] at e1
      rw [m_own hc hf hv, bs_some]
      dsimp only at e1 ⊢
      refine ⟨z, σ1, ?_, e2, e3, e4.imp (fun y _ => ow_hb (hS.1 v (by omega)) (by omega) y)⟩
      by_cases q2 : (if bt x (dmU m v) = true then (1 : Int32) else 0) = 0
      · rw [if_pos q2] at e1 ⊢
        rw [e1, bs_some]
        dsimp only
        rcases e3 with rfl | rfl
        · rw [if_pos rfl, if_pos rfl]
        · rw [if_neg ne10]
      · rw [if_neg q2] at e1 ⊢
        rw [e1, bs_some]
        dsimp only
        rcases e3 with rfl | rfl
        · rw [if_pos rfl, if_pos rfl]
        · rw [if_neg ne10]
  obtain ⟨z, σ1, g1, g2, g3, g4⟩ := s1
  have hS1 := g4.1
  -- the second
  have s2 : ∃ z2 σ2, f_X12_goesOn_L174 (k + 3) (nI v) (k + 2) σ1 z 2 = some (σ2, z2, 3) ∧ FM m x σ2 ∧ (z2 = 0 ∨ z2 = 1) ∧ MVs M (VM m σ1) z (VM m σ2) z2 (SVs (VM m σ1) 60 2 → SVs (VM m σ1) v (ow m x v 2)) := by
    rw [u_X12_goesOn_L174, if_neg (show ¬ (3 : Int32) ≤ 2 by decide)]
    unfold f_X12_goesOn_J212 f_X12_goesOn_J213 f_X12_goesOn_J219 f_X12_goesOn_J224 f_X12_goesOn_J229
    rw [show (2 : Int32) + 1 = 3 from rfl, en, en, if_neg (show ¬ (2 : Int32) = 1 by decide)]
    have hz : (if z = 0 then some (σ1, (0 : Int32), (3 : Int32)) else some (σ1, 1, 3)) = some (σ1, z, 3) := by
      rcases g3 with rfl | rfl
      · rw [if_pos rfl]
      · rw [if_neg ne10]
    by_cases q : mI σ1 84 &&& 2 = 0
    · rw [if_pos q, hz]
      exact ⟨z, σ1, rfl, g2, g3, MVs.refl hS1 (fun y => absurd q (by have := y.2; rw [show VM m σ1 60 = mI σ1 84 from VV_z h60] at this; exact this))⟩
    · rw [if_neg q]
      obtain ⟨z3, σ2, e1, e2, e3, e4, -⟩ := m_addOw (n := k + 3) (b := 2) hc g2 hS1 hv (hM 2 (Or.inr rfl) (hS1.2 60 2 (Nat.le_refl _) (Or.inr rfl) (by rw [show VM m σ1 60 = mI σ1 84 from VV_z h60]; exact q)))
      rw [if_pos (show aB 2 = 0 by decide)] at e1
      refine ⟨if z3 = 0 then z else 1, σ2, ?_, e2, ?_, (e4.fl z).imp (fun y _ => ow_hb (hS1.1 v (by omega)) (by omega) y)⟩
      · rw [e1, bs_some]
        dsimp only
        rw [en, en]
        rcases e3 with rfl | rfl
        · rw [if_pos rfl, if_pos rfl]
          rcases g3 with rfl | rfl
          · rw [if_pos rfl]
          · rw [if_neg ne10]
        · rw [if_neg ne10, if_neg ne10]
      · by_cases q3 : z3 = 0
        · rw [if_pos q3]; exact g3
        · rw [if_neg q3]; exact Or.inr rfl
  obtain ⟨z2, σ2, k1, k2, k3, k4⟩ := s2
  refine ⟨z2, σ2, g1.trans k1, k2, k3, (MVs.tr (K2 := fun V => SVs V 60 2 → SVs V v (ow m x v 2)) g4 k4).imp (fun y w hw hw2 => ?_)⟩
  rcases hw with rfl | rfl
  · exact y.1 hw2
  · exact y.2 hw2
theorem m_goes {n jn : Nat} {m σ : md_S} {x b : Int32} {M : Nat → Int32 → Prop} (hn : 100 ≤ n) (hc : MYC m) (hj : jn < mN m 65) (h12 : b = 1 ∨ b = 2) (hf : FM m x σ) (hS : SV M (VM m σ)) (hM : RUL m x M jn b) : ∃ z σ', f_X12_goesOn n σ (nI jn) (aB b) = some (z, σ') ∧ FM m x σ' ∧ (z = 0 ∨ z = 1) ∧ MVs M (VM m σ) 0 (VM m σ') z (RUL m x (SVs (VM m σ)) jn b) := by
  have h60 := hc.1.2.1
  have h900 := hc.1.2.2.2.2.1
  obtain ⟨r1, r2, r3⟩ := hM
  have no : ∀ w : Int32, w ≠ 7 → w ≠ 8 → w ≠ 23 → mA m 66 jn = w → ∀ v, v < mN m 35 → BG m (mA m 66 jn) (mA m 68 jn) (mA m 69 jn) v → SVs (VM m σ) v (ow m x v b) := fun w a1 a2 a3 e v _ hb' => by
    have := bg_no hb'
    rw [e] at this
    rcases this with y | y | y
    · exact absurd y a1
    · exact absurd y a2
    · exact absurd y a3
  have grp : mA m 66 jn ≠ 27 → mA m 66 jn ≠ 10 → ∃ z σ', f_X12_goesOn_J28 n σ (nI jn) (aB b) 0 = some (z, σ') ∧ FM m x σ' ∧ (z = 0 ∨ z = 1) ∧ MVs M (VM m σ) 0 (VM m σ') z (RUL m x (SVs (VM m σ)) jn b) := fun a1 a2 => by
    obtain ⟨z, σ', e1, e2, e3, e4⟩ := m_J28 (n := n) hn hc hj hf hS r1
    exact ⟨z, σ', e1, e2, e3, e4.imp (fun y => ⟨y, fun q => absurd q a1, fun q => absurd q a2⟩)⟩
  unfold f_X12_goesOn
  rw [m_ld66 (by omega), bs_some, hf.A (by decide)]
  by_cases h7 : mA m 66 jn = 7
  · rw [if_pos h7]
    exact grp (by rw [h7]; decide) (by rw [h7]; decide)
  rw [if_neg h7]
  by_cases h8 : mA m 66 jn = 8
  · rw [if_pos h8]
    exact grp (by rw [h8]; decide) (by rw [h8]; decide)
  rw [if_neg h8]
  by_cases h23 : mA m 66 jn = 23
  · rw [if_pos h23]
    exact grp (by rw [h23]; decide) (by rw [h23]; decide)
  rw [if_neg h23]
  by_cases h27 : mA m 66 jn = 27
  · rw [if_pos h27]
    have e : (if aB b = 0 then f_X12_goesOn_J113 n σ 2 else f_X12_goesOn_J113 n σ 1) = f_X12_goesOn_J113 n σ b := by
      rcases h12 with rfl | rfl
      · rw [if_neg (by decide)]
      · rw [if_pos (by decide)]
    rw [e]
    obtain ⟨z, σ', e1, e2, e3, e4⟩ := m_J113 (n := n) h60 hf hS h12 (r2 h27)
    exact ⟨z, σ', e1, e2, e3, e4.imp (fun y => ⟨no 27 (by decide) (by decide) (by decide) h27, fun _ => y, fun q => absurd (h27.symm.trans q) (by decide)⟩)⟩
  rw [if_neg h27]
  by_cases h10 : mA m 66 jn = 10
  · obtain ⟨v, v1, v2, v3⟩ := hc.2.2.2 jn hj h10
    have ev : aN m 68 jn = v := aN_of v1 (by omega)
    obtain ⟨p4, p2, p3⟩ := r3 h10
    rw [ev] at p4 p2 p3
    have N10 := no 10 (by decide) (by decide) (by decide) h10
    rw [if_pos h10, m_ld68 (by omega), bs_some, hf.A (by decide), v1, m_ld36 (by omega), bs_some, hf.A (by decide)]
    by_cases q4' : mA m 36 v = 4
    · rw [if_pos q4']
      obtain ⟨z, σ', e1, e2, e3, e4⟩ := m_L174 (n := n) hn hc hf hS v2 (p4 q4')
      rw [show f_X12_goesOn_L174 n (nI v) n σ 0 1 = _ from e1, bs_some]
      dsimp only
      rw [zb01 e3, bs_some]
      refine ⟨z, σ', rfl, e2, e3, e4.imp (fun y => ⟨N10, fun q => absurd q h27, fun _ => ?_⟩)⟩
      rw [ev]
      exact ⟨fun _ => y, fun q => absurd (q4'.symm.trans q) (by decide), fun q => absurd (q4'.symm.trans q) (by decide)⟩
    rw [if_neg q4', bs_some]
    by_cases q2 : mA m 36 v = 2
    · rw [if_pos q2]
      obtain ⟨z, σ', e1, e2, e3, e4⟩ := m_J276 (n := n) hc hf hS v2 (p2 q2)
      refine ⟨z, σ', e1, e2, e3, e4.imp (fun y => ⟨N10, fun q => absurd q h27, fun _ => ?_⟩)⟩
      rw [ev]
      exact ⟨fun q => absurd q q4', fun _ => y, fun q => absurd (q2.symm.trans q) (by decide)⟩
    rw [if_neg q2]
    have q3 : mA m 36 v = 3 := by
      rcases v3 with y | y | y
      · exact absurd y q2
      · exact y
      · exact absurd y q4'
    obtain ⟨l, l1, l2⟩ := hc.2.2.1 v v2 q3
    have el : aN m 42 v = l := aN_of l2 (by omega)
    have hp := p3 q3
    rw [el] at hp
    have fin : ∀ (b' : Int32), (if bt x (8 + l) = true then 1 else b) = b' → ∀ {z : Int32} {σ' : md_S}, MVs M (VM m σ) 0 (VM m σ') z (SVs (VM m σ) v (ow m x v b')) → MVs M (VM m σ) 0 (VM m σ') z (RUL m x (SVs (VM m σ)) jn b) := fun b' hb' z σ' h => h.imp (fun y => ⟨N10, fun q => absurd q h27, fun _ => by
      rw [ev, el, hb']
      exact ⟨fun q => absurd q q4', fun q => absurd q q2, fun _ => y⟩⟩)
    by_cases q1 : aB b = 0
    · have nb : b ≠ 1 := fun y => by rw [y] at q1; exact absurd q1 (by decide)
      rw [if_pos q1, m_ld42 (by omega), bs_some, hf.A (by decide), l2, hf.2, show (8 : Int32) = nI 8 from rfl, nI_add, bt_m (by omega)]
      by_cases qb : bt x (8 + l) = true
      · rw [if_pos qb, if_pos rfl]
        rw [if_pos qb] at hp
        obtain ⟨z, σ', e1, e2, e3, e4⟩ := m_J276 (n := n) hc hf hS v2 hp
        exact ⟨z, σ', e1, e2, e3, fin 1 (if_pos qb) e4⟩
      · rw [if_neg qb, if_neg (by decide)]
        rw [if_neg qb] at hp
        obtain ⟨z, σ', e1, e2, e3, e4⟩ := m_J281 (n := n) hc hf hS v2 nb hp
        exact ⟨z, σ', e1, e2, e3, fin b (if_neg qb) e4⟩
    · have b1 : b = 1 := by
        rcases h12 with y | y
        · exact y
        · rw [y] at q1; exact absurd rfl q1
      rw [if_neg q1]
      have hi : (if bt x (8 + l) = true then (1 : Int32) else b) = 1 := by
        rw [b1]
        split <;> rfl
      rw [hi] at hp
      obtain ⟨z, σ', e1, e2, e3, e4⟩ := m_J276 (n := n) hc hf hS v2 hp
      exact ⟨z, σ', e1, e2, e3, fin 1 hi e4⟩
  rw [if_neg h10]
  refine ⟨0, σ, rfl, hf, Or.inl rfl, MVs.refl hS ⟨fun v hv hb' => ?_, fun q => absurd q h27, fun q => absurd q h10⟩⟩
  rcases bg_no hb' with y | y | y
  · exact absurd y h7
  · exact absurd y h8
  · exact absurd y h23
