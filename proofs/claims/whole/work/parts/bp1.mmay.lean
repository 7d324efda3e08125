/-! may, in the model -/
def MYC (m : md_S) : Prop :=
  MS m (mN m 35) ∧ (∀ v, v < mN m 35 → ∃ d dom, d < 8 ∧ mA m 37 v = nI d ∧ mA m 32 d = nI dom ∧ dom < 8) ∧ (∀ v, v < mN m 35 → mA m 36 v = 3 → ∃ a, a < 12 ∧ mA m 42 v = nI a) ∧
  ∀ j, j < mN m 65 → mA m 66 j = 10 → ∃ a, mA m 68 j = nI a ∧ a < mN m 35 ∧ SP m a
def FM (m : md_S) (x : Int32) (σ : md_S) : Prop := md_fr [83, 84, 85] m σ ∧ mI σ 85 = x
def VM (m σ : md_S) : Nat → Int32 := VV (mN m 35) (mA σ 83) (mI σ 84)
theorem FM.A {m σ : md_S} {x : Int32} (h : FM m x σ) {f : Nat} (hf : f ∉ [83, 84, 85]) (i : Nat) : mA σ f i = mA m f i := md_frA h.1 hf i
theorem MYC.dm {m : md_S} (h : MYC m) {v : Nat} (hv : v < mN m 35) : ∃ d, d < 8 ∧ mA m 37 v = nI d ∧ mA m 32 d = nI (dmU m v) ∧ dmU m v < 8 := by
  obtain ⟨d, dom, h1, h2, h3, h4⟩ := h.2.1 v hv
  have e : dmU m v = dom := by unfold dmU; rw [aN_of h2 (by omega), aN_of h3 (by omega)]
  exact ⟨d, h1, h2, by rw [e]; exact h3, by omega⟩
theorem m_own {n v : Nat} {m σ : md_S} {x : Int32} (hc : MYC m) (hf : FM m x σ) (hv : v < mN m 35) : f_X12_own n σ (nI v) = some (if bt x (dmU m v) = true then 1 else 0, σ) := by
  obtain ⟨d, h1, h2, h3, h4⟩ := hc.dm hv
  have h60 := hc.1.2.1
  unfold f_X12_own
  rw [m_ld37 (by omega), bs_some, hf.A (by decide), h2, m_ld32 h1, bs_some, hf.A (by decide), h3, hf.2, bt_m (by omega)]
  by_cases q : bt x (dmU m v) = true
  · rw [if_pos q, if_pos rfl]
  · rw [if_neg q, if_neg (by decide)]
theorem or4c : ∀ x, x ∈ q4 → ∀ b, b ∈ ([1, 2] : List Int32) → (x ||| b = x ↔ ¬ x &&& b = 0) := by decide
theorem m_adds {n v : Nat} {m σ : md_S} {x a2 b : Int32} {M : Nat → Int32 → Prop} (hf : FM m x σ) (hS : SV M (VM m σ)) (h60 : mN m 35 ≤ 60) (hv : v < mN m 35) (hb' : (a2 = 0 ∧ b = 2) ∨ (a2 = 1 ∧ b = 1)) (hM : M v b) : ∃ z σ', f_X12_adds n σ (nI v) a2 = some (z, σ') ∧ FM m x σ' ∧ (z = 0 ∨ z = 1) ∧ MVs M (VM m σ) 0 (VM m σ') z (VM m σ v ||| b = VM m σ v) ∧ SVs (VM m σ') v b := by
  have h12 : b = 1 ∨ b = 2 := by rcases hb' with ⟨-, y⟩ | ⟨-, y⟩ <;> simp [y]
  have e0 : f_X12_adds n σ (nI v) a2 = f_X12_adds_J9 n σ (nI v) b := by
    unfold f_X12_adds
    rcases hb' with ⟨y, z⟩ | ⟨y, z⟩
    · rw [if_pos y, z]
    · rw [if_neg (by rw [y]; decide), z]
  have eV : VM m σ v = mA σ 83 v := VV_u hv
  have hq := hS.1 v (by omega)
  rw [eV] at hq
  have hc := or4c _ hq b (b12 h12).1
  refine ⟨if mA σ 83 v &&& b = 0 then 1 else 0, mSA σ 83 v (mA σ 83 v ||| b), ?_, ⟨md_fr_tr hf.1 (md_fr_SA (L := [83]) (md_fr_refl _ _) (by simp) v _) (fun k hk => ⟨hk, nin (by decide) hk⟩), hf.2⟩, ?_, ?_, by omega, fun z => ?_⟩
  · rw [e0]
    unfold f_X12_adds_J9 f_X12_adds_J26
    rw [m_ld83 (by omega), bs_some]
    by_cases q : mA σ 83 v &&& b = 0
    · rw [if_pos q, if_pos q, bs_some, m_st83 (by omega), bs_some, show md_zb 1 = some 1 from rfl, bs_some]
    · rw [if_neg q, if_neg q, bs_some, m_st83 (by omega), bs_some, show md_zb 0 = some 0 from rfl, bs_some]
  · by_cases q : mA σ 83 v &&& b = 0
    · rw [if_pos q]; exact Or.inr rfl
    · rw [if_neg q]; exact Or.inl rfl
  · refine MVs.add hS (b12 h12).2 (by omega) (fun b' h1 h2 => ?_) (fun w hw => ?_) ?_ (fun q => ?_) (fun q => ?_)
    · have : b' = b := by
        rcases h12 with rfl | rfl <;> rcases h1 with rfl | rfl
        · rfl
        · exact absurd (show (1 : Int32) &&& 2 = 0 by decide) h2
        · exact absurd (show (2 : Int32) &&& 1 = 0 by decide) h2
        · rfl
      rw [this]; exact hM
    · unfold VM VV
      by_cases q : w < mN m 35
      · rw [if_pos q, if_pos q, mA_SAi hw]
      · rw [if_neg q, if_neg q, mI_SA]
    · rw [eV]
      exact (VV_u hv).trans mA_SAe
    · rw [eV] at q
      rw [if_neg (hc.mp q)]
    · rw [eV] at q
      rw [if_pos]
      by_cases z : mA σ 83 v &&& b = 0
      · exact z
      · exact absurd (hc.mpr z) q
  · have e1 : VM m (mSA σ 83 v (mA σ 83 v ||| b)) v = mA σ 83 v ||| b := (VV_u hv).trans mA_SAe
    rw [e1] at z
    have := ((or4b _ hq b (b12 h12).2 b (b12 h12).1).mp z).2
    rcases h12 with rfl | rfl <;> exact absurd this (by decide)
/-- the flag goes on -/
theorem MVs.fl {M : Nat → Int32 → Prop} {V V' : Nat → Int32} {z : Int32} {K : Prop} (h : MVs M V 0 V' z K) (f : Int32) : MVs M V f V' (if z = 0 then f else 1) K := by
  refine ⟨h.1, ?_, h.2.2⟩
  rcases h.2.1 with ⟨h1, h2, h3⟩ | ⟨h1, h2⟩
  · exact Or.inl ⟨h1, by rw [if_pos h2], h3⟩
  · exact Or.inr ⟨by rw [h1, if_neg ne10], h2⟩
/-- b, as goesOn is told -/
def aB (b : Int32) : Int32 := if b = 1 then 1 else 0
/-- one more unit, by way b -/
theorem m_addOw {n v : Nat} {m σ : md_S} {x b : Int32} {M : Nat → Int32 → Prop} (hc : MYC m) (hf : FM m x σ) (hS : SV M (VM m σ)) (hv : v < mN m 35) (hM : M v (ow m x v b)) : ∃ z σ', (if aB b = 0 then f_X12_adds n σ (nI v) 0 else Option.bind (f_X12_own n σ (nI v)) fun p => if p.1 = 0 then f_X12_adds n p.2 (nI v) 0 else f_X12_adds n p.2 (nI v) 1) = some (z, σ') ∧ FM m x σ' ∧ (z = 0 ∨ z = 1) ∧ MVs M (VM m σ) 0 (VM m σ') z (VM m σ v ||| ow m x v b = VM m σ v) ∧ SVs (VM m σ') v (ow m x v b) := by
  have h60 := hc.1.2.1
  unfold aB
  by_cases h1 : b = 1
  · rw [if_pos h1, if_neg ne10, m_own hc hf hv, bs_some]
    dsimp only
    by_cases q : bt x (dmU m v) = true
    · rw [if_pos q, if_neg ne10]
      have e : ow m x v b = 1 := by unfold ow; rw [if_pos ⟨h1, q⟩]
      rw [e] at hM ⊢
      exact m_adds hf hS h60 hv (Or.inr ⟨rfl, rfl⟩) hM
    · rw [if_neg q, if_pos rfl]
      have e : ow m x v b = 2 := by unfold ow; rw [if_neg (fun y => q y.2)]
      rw [e] at hM ⊢
      exact m_adds hf hS h60 hv (Or.inl ⟨rfl, rfl⟩) hM
  · rw [if_neg h1, if_pos rfl]
    have e : ow m x v b = 2 := by unfold ow; rw [if_neg (fun y => h1 y.1)]
    rw [e] at hM ⊢
    exact m_adds hf hS h60 hv (Or.inl ⟨rfl, rfl⟩) hM
/-- all of a group -/
theorem m_grpL {n jn : Nat} {m : md_S} {x b : Int32} {M : Nat → Int32 → Prop} (hc : MYC m) (hj : jn < mN m 65) (hM : ∀ v, v < mN m 35 → BG m (mA m 66 jn) (mA m 68 jn) (mA m 69 jn) v → M v (ow m x v b)) : ∀ (d j v : Nat) (σ : md_S) (f : Int32), v + d = mN m 35 → d < j → FM m x σ → SV M (VM m σ) → f = 0 ∨ f = 1 → ∃ σ' f', f_X12_goesOn_L31 n (nI jn) (aB b) j σ f (nI v) = some (σ', f', nI (mN m 35)) ∧ FM m x σ' ∧ (f' = 0 ∨ f' = 1) ∧ MVs M (VM m σ) f (VM m σ') f' (∀ w, v ≤ w → w < mN m 35 → BG m (mA m 66 jn) (mA m 68 jn) (mA m 69 jn) w → VM m σ w ||| ow m x w b = VM m σ w) := by
  have h60 := hc.1.2.1
  have h35 : ∀ {σ : md_S}, FM m x σ → mI σ 35 = nI (mN m 35) := fun hf => by rw [md_frI hf.1 (by decide)]; exact hc.1.1
  intro d
  induction d with
  | zero =>
    intro j v σ f hv hjd hf hS hff
    obtain ⟨j, rfl⟩ : ∃ q, j = q + 1 := ⟨j - 1, by omega⟩
    refine ⟨σ, f, ?_, hf, hff, MVs.refl hS (fun w h1 h2 => by omega)⟩
    rw [u_X12_goesOn_L31, h35 hf, show v = mN m 35 by omega, if_pos ((nI_leI (by omega) (by omega)).mpr (Nat.le_refl _))]
  | succ d ih =>
    intro j v σ f hv hjd hf hS hff
    obtain ⟨j, rfl⟩ : ∃ q, j = q + 1 := ⟨j - 1, by omega⟩
    obtain ⟨g, g1, g2⟩ := m_isOf (n := n) (v := v) (by decide) hf.1 hc.1 hj (by omega)
    rw [u_X12_goesOn_L31, h35 hf, if_neg (fun y => absurd ((nI_leI (by omega) (by omega)).mp y) (by omega)), g1, bs_some]
    dsimp only
    unfold f_X12_goesOn_J70 f_X12_goesOn_J71 f_X12_goesOn_J82 f_X12_goesOn_J87 f_X12_goesOn_J89
    rcases g2 with ⟨rfl, hb'⟩ | ⟨rfl, hb'⟩
    · rw [if_neg ne10, nI_1]
      obtain ⟨z, σ1, e1, e2, e3, e4, -⟩ := m_addOw (n := n) (b := b) hc hf hS (show v < mN m 35 by omega) (hM v (by omega) hb')
      have e4' := e4.fl f
      have hff' : (if z = 0 then f else 1) = 0 ∨ (if z = 0 then f else 1) = (1 : Int32) := by
        by_cases q : z = 0
        · rw [if_pos q]; exact hff
        · rw [if_neg q]; exact Or.inr rfl
      obtain ⟨σ', f', k1, k2, k3, k4⟩ := ih j (v + 1) σ1 (if z = 0 then f else 1) (by omega) (by omega) e2 e4.1 hff'
      have tl : ∀ p : Int32 × md_S, p = (z, σ1) → (if p.1 = 0 then if f = 0 then f_X12_goesOn_L31 n (nI jn) (aB b) j p.2 0 (nI (v + 1)) else f_X12_goesOn_L31 n (nI jn) (aB b) j p.2 1 (nI (v + 1)) else f_X12_goesOn_L31 n (nI jn) (aB b) j p.2 1 (nI (v + 1))) = some (σ', f', nI (mN m 35)) := fun p hp => by
        rw [hp]
        dsimp only
        by_cases q : z = 0
        · rw [if_pos q]
          rw [if_pos q] at k1
          rcases hff with q2 | q2
          · rw [if_pos q2]
            rw [q2] at k1
            exact k1
          · rw [if_neg (by rw [q2]; decide)]
            rw [q2] at k1
            exact k1
        · rw [if_neg q]
          rw [if_neg q] at k1
          exact k1
      refine ⟨σ', f', ?_, k2, k3, ?_⟩
      · by_cases qa : aB b = 0
        · rw [if_pos qa] at e1 ⊢
          rw [e1, bs_some]
          exact tl _ rfl
        · rw [if_neg qa] at e1 ⊢
          cases ho : f_X12_own n σ (nI v) with
          | none => rw [ho] at e1; exact absurd e1 (by simp)
          | some p =>
            rw [ho, bs_some] at e1
            rw [bs_some]
            by_cases qp : p.1 = 0
            · rw [if_pos qp] at e1 ⊢
              rw [e1, bs_some]
              exact tl _ rfl
            · rw [if_neg qp] at e1 ⊢
              rw [e1, bs_some]
              exact tl _ rfl
      · refine (MVs.tr (K2 := fun V => ∀ w, v + 1 ≤ w → w < mN m 35 → BG m (mA m 66 jn) (mA m 68 jn) (mA m 69 jn) w → V w ||| ow m x w b = V w) e4' k4).imp (fun y w h1 h2 h3 => ?_)
        by_cases q : w = v
        · rw [q]; exact y.1
        · exact y.2 w (by omega) h2 h3
    · rw [if_pos rfl, nI_1]
      obtain ⟨σ', f', k1, k2, k3, k4⟩ := ih j (v + 1) σ f (by omega) (by omega) hf hS hff
      refine ⟨σ', f', k1, k2, k3, k4.imp (fun y w h1 h2 h3 => ?_)⟩
      by_cases q : w = v
      · rw [q] at h3; exact absurd h3 hb'
      · exact y w (by omega) h2 h3
