/-! may, in the model: to the end -/
def NDK (m : md_S) (x : Int32) (V : Nat → Int32) (jn : Nat) : Prop := ∀ q b, mA m 67 jn = nI q → q < mN m 35 → (b = 1 ∨ b = 2) → SVs V q b → RUL m x (SVs V) jn b
theorem m_way {n k jn q : Nat} {m σ : md_S} {x b f l1 : Int32} (hn : 100 ≤ n) (hc : MYC m) (hj : jn < mN m 65) (h67 : mA m 67 jn = nI q) (hq : q < mN m 35) (h12 : b = 1 ∨ b = 2) (hf : FM m x σ) (hS : SV (MAY m x) (VM m σ)) (hff : f = 0 ∨ f = 1) : ∃ σ1 f1, f_X12_may_L131 n l1 (nI jn) (k + 1) σ f b = f_X12_may_L131 n l1 (nI jn) k σ1 f1 (b + 1) ∧ FM m x σ1 ∧ (f1 = 0 ∨ f1 = 1) ∧ MVs (MAY m x) (VM m σ) f (VM m σ1) f1 (SVs (VM m σ) q b → RUL m x (SVs (VM m σ)) jn b) := by
  have h60 := hc.1.2.1
  have h900 := hc.1.2.2.2.2.1
  have eV : VM m σ q = mA σ 83 q := VV_u hq
  rw [u_X12_may_L131, if_neg (show ¬ (3 : Int32) ≤ b by rcases h12 with rfl | rfl <;> decide), m_ld67 (by omega), bs_some, hf.A (by decide), h67, m_ld83 (by omega), bs_some]
  unfold f_X12_may_J167 f_X12_may_J177 f_X12_may_J182 f_X12_may_J183
  by_cases z : mA σ 83 q &&& b = 0
  · rw [if_pos z]
    exact ⟨σ, f, rfl, hf, hff, MVs.refl hS (fun y => absurd z (by have := y.2; rw [eV] at this; exact this))⟩
  · rw [if_neg z]
    have hM : RUL m x (MAY m x) jn b := (MAY.cl m x).2 jn q b hj h67 hq h12 (hS.2 q b (by omega) h12 (by rw [eV]; exact z))
    obtain ⟨y, σ1, e1, e2, e3, e4⟩ := m_goes (n := n) hn hc hj h12 hf hS hM
    have tl : (if y = 0 then if f = 0 then f_X12_may_L131 n l1 (nI jn) k σ1 0 (b + 1) else f_X12_may_L131 n l1 (nI jn) k σ1 1 (b + 1) else f_X12_may_L131 n l1 (nI jn) k σ1 1 (b + 1)) = f_X12_may_L131 n l1 (nI jn) k σ1 (if y = 0 then f else 1) (b + 1) := by
      rcases e3 with rfl | rfl
      · rw [if_pos rfl, if_pos rfl]
        rcases hff with rfl | rfl
        · rw [if_pos rfl]
        · rw [if_neg ne10]
      · rw [if_neg ne10, if_neg ne10]
    refine ⟨σ1, if y = 0 then f else 1, ?_, e2, ?_, (e4.fl f).imp (fun w _ => w)⟩
    · rcases h12 with rfl | rfl
      · rw [if_pos rfl, show f_X12_goesOn n σ (nI jn) 1 = _ from e1, bs_some]
        exact tl
      · rw [if_neg (show ¬ (2 : Int32) = 1 by decide), show f_X12_goesOn n σ (nI jn) 0 = _ from e1, bs_some]
        exact tl
    · by_cases q2 : y = 0
      · rw [if_pos q2]; exact hff
      · rw [if_neg q2]; exact Or.inr rfl
theorem m_nodeW {n jn : Nat} {m σ : md_S} {x f l1 : Int32} (hn : 100 ≤ n) (hc : MYC m) (hj : jn < mN m 65) (hf : FM m x σ) (hS : SV (MAY m x) (VM m σ)) (hff : f = 0 ∨ f = 1) : ∃ σ' f', f_X12_may_L131 n l1 (nI jn) n σ f 1 = some (σ', f', 3) ∧ FM m x σ' ∧ (f' = 0 ∨ f' = 1) ∧ MVs (MAY m x) (VM m σ) f (VM m σ') f' (NDK m x (VM m σ) jn) := by
  obtain ⟨q, q1, q2⟩ := hc.1.2.2.2.2.2.1 jn hj
  have h60 := hc.1.2.1
  obtain ⟨k, hk⟩ : ∃ k, n = k + 3 := ⟨n - 3, by omega⟩
  obtain ⟨σ1, f1, a1, a2, a3, a4⟩ := m_way (n := n) (k := k + 2) (b := 1) (l1 := l1) hn hc hj q2 q1 (Or.inl rfl) hf hS hff
  obtain ⟨σ2, f2, b1, b2, b3, b4⟩ := m_way (n := n) (k := k + 1) (b := 2) (l1 := l1) hn hc hj q2 q1 (Or.inr rfl) a2 a4.1 a3
  refine ⟨σ2, f2, ?_, b2, b3, (MVs.tr (K2 := fun V => SVs V q 2 → RUL m x (SVs V) jn 2) a4 b4).imp (fun y q' b h1 h2 h3 h4 => ?_)⟩
  · have e1 : f_X12_may_L131 n l1 (nI jn) n σ f 1 = f_X12_may_L131 n l1 (nI jn) (k + 2 + 1) σ f 1 := by rw [show k + 2 + 1 = n by omega]
    rw [e1, a1]
    rw [show (1 : Int32) + 1 = 2 from rfl]
    rw [show k + 2 = k + 1 + 1 from rfl, b1, show (2 : Int32) + 1 = 3 from rfl, u_X12_may_L131, if_pos (show (3 : Int32) ≤ 3 by decide)]
  · have : q' = q := (nI_eq (by omega) (by omega)).mp (h1.symm.trans q2)
    rw [this] at h4
    rcases h3 with rfl | rfl
    · exact y.1 h4
    · exact y.2 h4
/-- once over all nodes -/
theorem m_passL {n : Nat} {m : md_S} {x l1 : Int32} (hn : 100 ≤ n) (hc : MYC m) : ∀ (d j i : Nat) (σ : md_S) (f : Int32), i + d = mN m 65 → d < j → FM m x σ → SV (MAY m x) (VM m σ) → f = 0 ∨ f = 1 → ∃ σ' f', f_X12_may_L120 n l1 j σ f (nI i) = some (σ', f', nI (mN m 65)) ∧ FM m x σ' ∧ (f' = 0 ∨ f' = 1) ∧ MVs (MAY m x) (VM m σ) f (VM m σ') f' (∀ jn, i ≤ jn → jn < mN m 65 → NDK m x (VM m σ) jn) := by
  have h900 := hc.1.2.2.2.2.1
  have h65 : ∀ {σ : md_S}, FM m x σ → mI σ 65 = nI (mN m 65) := fun hf => by rw [md_frI hf.1 (by decide)]; exact hc.1.2.2.2.1
  intro d
  induction d with
  | zero =>
    intro j i σ f hi hjd hf hS hff
    obtain ⟨j, rfl⟩ : ∃ q, j = q + 1 := ⟨j - 1, by omega⟩
    refine ⟨σ, f, ?_, hf, hff, MVs.refl hS (fun w h1 h2 => by omega)⟩
    rw [u_X12_may_L120, h65 hf, show i = mN m 65 by omega, if_pos ((nI_leI (by omega) (by omega)).mpr (Nat.le_refl _))]
  | succ d ih =>
    intro j i σ f hi hjd hf hS hff
    obtain ⟨j, rfl⟩ : ∃ q, j = q + 1 := ⟨j - 1, by omega⟩
    obtain ⟨σ1, f1, a1, a2, a3, a4⟩ := m_nodeW (n := n) (jn := i) (l1 := l1) hn hc (by omega) hf hS hff
    obtain ⟨σ', f', b1, b2, b3, b4⟩ := ih j (i + 1) σ1 f1 (by omega) (by omega) a2 a4.1 a3
    refine ⟨σ', f', ?_, b2, b3, (MVs.tr (K2 := fun V => ∀ jn, i + 1 ≤ jn → jn < mN m 65 → NDK m x V jn) a4 b4).imp (fun y jn h1 h2 => ?_)⟩
    · rw [u_X12_may_L120, h65 hf, if_neg (fun y => absurd ((nI_leI (by omega) (by omega)).mp y) (by omega)), a1, bs_some]
      dsimp only
      rw [nI_1]
      exact b1
    · by_cases q : jn = i
      · rw [q]; exact y.1
      · exact y.2 jn (by omega) h2
theorem m_fixL {n : Nat} {m : md_S} {x l1 : Int32} (hn : 1000 ≤ n) (hc : MYC m) : ∀ (k j : Nat) (σ : md_S), 122 - cntV (VM m σ) < k → k < j → FM m x σ → SV (MAY m x) (VM m σ) → ∃ σ', f_X12_may_L112 n l1 j σ 1 = some (σ', 0) ∧ FM m x σ' ∧ SV (MAY m x) (VM m σ') ∧ MON (VM m σ) (VM m σ') ∧ ∀ jn, jn < mN m 65 → NDK m x (VM m σ') jn := by
  have h900 := hc.1.2.2.2.2.1
  intro k
  induction k with
  | zero => intro j σ h; omega
  | succ k ih =>
    intro j σ hk hj hf hS
    obtain ⟨j, rfl⟩ : ∃ q, j = q + 2 := ⟨j - 2, by omega⟩
    obtain ⟨σ1, f1, a1, a2, a3, a4⟩ := m_passL (n := n) (l1 := l1) (by omega) hc (mN m 65) n 0 σ 0 (by omega) (by omega) hf hS (Or.inl rfl)
    rw [show j + 2 = j + 1 + 1 from rfl, u_X12_may_L112, if_neg ne10, show f_X12_may_L120 n l1 n σ 0 0 = _ from a1, bs_some]
    dsimp only
    rcases a4.2.1 with ⟨c1, c2, c3⟩ | ⟨c1, c2⟩
    · rw [c2, u_X12_may_L112, if_pos rfl]
      exact ⟨σ1, rfl, a2, a4.1, a4.2.2, fun jn h => by rw [c1]; exact c3 jn (by omega) h⟩
    · rw [c1]
      have hle := cntV_le (VM m σ1)
      obtain ⟨σ', b1, b2, b3, b4, b5⟩ := ih (j + 1) σ1 (by omega) (by omega) a2 a4.1
      exact ⟨σ', b1, b2, b3, fun u b h y => b4 u b h (a4.2.2 u b h y), b5⟩
/-- all is put out -/
theorem m_zeroL {n : Nat} {m : md_S} {l1 : Int32} {U : Nat} (h35 : mI m 35 = nI U) (hU : U ≤ 60) : ∀ (d j v : Nat) (σ : md_S), v + d = U → d < j → md_fr [83] m σ → (∀ w, w < v → mA σ 83 w = 0) → ∃ σ', f_X12_may_L44 n l1 j σ (nI v) = some (σ', nI U) ∧ md_fr [83] m σ' ∧ ∀ w, w < U → mA σ' 83 w = 0 := by
  intro d
  induction d with
  | zero =>
    intro j v σ hv hjd hf hz
    obtain ⟨j, rfl⟩ : ∃ q, j = q + 1 := ⟨j - 1, by omega⟩
    refine ⟨σ, ?_, hf, fun w hw => hz w (by omega)⟩
    rw [u_X12_may_L44, md_frI hf (by decide), h35, show v = U by omega, if_pos ((nI_leI (by omega) (by omega)).mpr (Nat.le_refl _))]
  | succ d ih =>
    intro j v σ hv hjd hf hz
    obtain ⟨j, rfl⟩ : ∃ q, j = q + 1 := ⟨j - 1, by omega⟩
    rw [u_X12_may_L44, md_frI hf (by decide), h35, if_neg (fun y => absurd ((nI_leI (by omega) (by omega)).mp y) (by omega)), m_st83 (by omega), bs_some, nI_1]
    refine ih j (v + 1) _ (by omega) (by omega) (md_fr_SA hf (by simp) v _) (fun w hw => ?_)
    by_cases q : w = v
    · rw [q, mA_SAe]
    · rw [mA_SAi q]; exact hz w (by omega)
/-- where it begins -/
theorem m_stL {n : Nat} {m : md_S} {x l1 : Int32} (hc : MYC m) : ∀ (d j v : Nat) (σ : md_S), v + d = mN m 35 → d < j → FM m x σ → SV (MAY m x) (VM m σ) → ∃ σ', f_X12_may_L67 n l1 j σ (nI v) = some (σ', nI (mN m 35)) ∧ FM m x σ' ∧ SV (MAY m x) (VM m σ') ∧ MON (VM m σ) (VM m σ') ∧ ∀ u, v ≤ u → u < mN m 35 → mA m 36 u = 0 → mA m 39 u = 0 → SVs (VM m σ') u (ow m x u 1) := by
  have h60 := hc.1.2.1
  have h35 : ∀ {σ : md_S}, FM m x σ → mI σ 35 = nI (mN m 35) := fun hf => by rw [md_frI hf.1 (by decide)]; exact hc.1.1
  intro d
  induction d with
  | zero =>
    intro j v σ hv hjd hf hS
    obtain ⟨j, rfl⟩ : ∃ q, j = q + 1 := ⟨j - 1, by omega⟩
    refine ⟨σ, ?_, hf, hS, fun _ _ _ y => y, fun u h1 h2 => by omega⟩
    rw [u_X12_may_L67, h35 hf, show v = mN m 35 by omega, if_pos ((nI_leI (by omega) (by omega)).mpr (Nat.le_refl _))]
  | succ d ih =>
    intro j v σ hv hjd hf hS
    obtain ⟨j, rfl⟩ : ∃ q, j = q + 1 := ⟨j - 1, by omega⟩
    rw [u_X12_may_L67, h35 hf, if_neg (fun y => absurd ((nI_leI (by omega) (by omega)).mp y) (by omega)), m_ld36 (by omega), bs_some, hf.A (by decide)]
    unfold f_X12_may_J104
    rw [nI_1]
    have skip : ¬ (mA m 36 v = 0 ∧ mA m 39 v = 0) → ∃ σ', f_X12_may_L67 n l1 j σ (nI (v + 1)) = some (σ', nI (mN m 35)) ∧ FM m x σ' ∧ SV (MAY m x) (VM m σ') ∧ MON (VM m σ) (VM m σ') ∧ ∀ u, v ≤ u → u < mN m 35 → mA m 36 u = 0 → mA m 39 u = 0 → SVs (VM m σ') u (ow m x u 1) := fun hno => by
      obtain ⟨σ', b1, b2, b3, b4, b5⟩ := ih j (v + 1) σ (by omega) (by omega) hf hS
      refine ⟨σ', b1, b2, b3, b4, fun u h1 h2 h3 h4 => ?_⟩
      by_cases q : u = v
      · rw [q] at h3 h4; exact absurd ⟨h3, h4⟩ hno
      · exact b5 u (by omega) h2 h3 h4
    by_cases q36 : mA m 36 v = 0
    · rw [if_pos q36, m_ld39 (by omega), bs_some, hf.A (by decide)]
      by_cases q39 : mA m 39 v = 0
      · rw [if_pos q39, m_own hc hf (by omega), bs_some]
        dsimp only
        have hM : MAY m x v (ow m x v 1) := (MAY.cl m x).1 v (by omega) q36 q39
        obtain ⟨z, σ1, e1, e2, e3, e4, e5⟩ := m_adds (n := n) (a2 := if bt x (dmU m v) = true then 1 else 0) (b := ow m x v 1) hf hS h60 (show v < mN m 35 by omega) (by
          unfold ow
          by_cases q : bt x (dmU m v) = true
          · rw [if_pos q, if_pos ⟨rfl, q⟩]; exact Or.inr ⟨rfl, rfl⟩
          · rw [if_neg q, if_neg (fun y => q y.2)]; exact Or.inl ⟨rfl, rfl⟩) hM
        rw [e1, bs_some]
        dsimp only
        obtain ⟨σ', b1, b2, b3, b4, b5⟩ := ih j (v + 1) σ1 (by omega) (by omega) e2 e4.1
        refine ⟨σ', b1, b2, b3, fun u b h y => b4 u b h (e4.2.2 u b h y), fun u h1 h2 h3 h4 => ?_⟩
        by_cases q : u = v
        · rw [q]; exact b4 v _ (ow12 m x v 1) e5
        · exact b5 u (by omega) h2 h3 h4
      · rw [if_neg q39]
        exact skip (fun y => q39 y.2)
    · rw [if_neg q36]
      exact skip (fun y => q36 y.1)
/-- may, in the model -/
theorem m_may {n u : Nat} {m0 m : md_S} {x : Int32} (hn : 1000 ≤ n) (e0 : m = mSI m0 0 0) (hc : MYC m) (hu : u < mN m 35) (h81 : mI m 81 = 1) (his : f_X12_isUnit n m (nI u) = some (1, m)) (hx : f_X12_bitsOf n (mSI m 84 0) (mJ m 82) 264 = some (x, mSI m 84 0)) : ∃ V m', f_X12_may n m0 (nI u) = some (V u, m') ∧ md_fr [83, 84, 85] m m' ∧ ALLV m x V := by
  have h60 := hc.1.2.1
  obtain ⟨s5, es5⟩ : ∃ s5, s5 = mSI (mSI m 84 0) 85 x := ⟨_, rfl⟩
  have f5 : md_fr [83, 84, 85] m s5 := by rw [es5]; exact md_fr_SI (md_fr_SI (md_fr_refl _ _) (by simp) _) (by simp) _
  obtain ⟨s6, a1, a2, a3⟩ := m_zeroL (n := n) (m := s5) (l1 := nI u) (U := mN m 35) (by rw [md_frI f5 (by decide)]; exact hc.1.1) h60 (mN m 35) n 0 s5 (by omega) (by omega) (md_fr_refl _ _) (fun w hw => by omega)
  have hf6 : FM m x s6 := ⟨md_fr_tr f5 a2 (fun k hk => ⟨hk, nin (by decide) hk⟩), by rw [md_frI a2 (by decide), es5, mI_SIe]⟩
  have e84 : mI s6 84 = 0 := by rw [md_frI a2 (by decide), es5, mI_SIo (by decide), mI_SIe]
  have z6 : ∀ w, VM m s6 w = 0 := fun w => by
    unfold VM VV
    by_cases q : w < mN m 35
    · rw [if_pos q]; exact a3 w q
    · rw [if_neg q, e84]
      split <;> rfl
  have hS6 : SV (MAY m x) (VM m s6) := ⟨fun w _ => by rw [z6]; decide, fun w b _ h12 hh => by
    rw [z6] at hh
    rcases h12 with rfl | rfl <;> exact absurd (by decide) hh⟩
  obtain ⟨s7, b1, b2, b3, b4, b5⟩ := m_stL (n := n) (l1 := nI u) hc (mN m 35) n 0 s6 (by omega) (by omega) hf6 hS6
  obtain ⟨s8, c1, c2, c3, c4, c5⟩ := m_fixL (n := n) (l1 := nI u) hn hc 200 n s7 (by omega) (by omega) b2 b3
  refine ⟨VM m s8, s8, ?_, c2.1, c3, fun v h1 h2 h3 => c4 v _ (ow12 m x v 1) (b5 v (by omega) h1 h2 h3), fun j q b h1 h2 h3 h4 h5 => c5 j h1 q b h2 h3 h4 h5⟩
  unfold f_X12_may
  rw [bs_some, ← e0, his, bs_some]
  dsimp only
  rw [if_neg ne10, h81, if_neg ne10, bs_some, show mJ (mSI m 84 0) 82 = mJ m 82 from rfl, hx, bs_some]
  dsimp only
  rw [bs_some, ← es5, show f_X12_may_L44 n (nI u) n s5 0 = _ from a1, bs_some]
  dsimp only
  rw [show f_X12_may_L67 n (nI u) n s6 0 = _ from b1, bs_some]
  dsimp only
  rw [c1, bs_some]
  dsimp only
  rw [m_ld83 (by omega), bs_some, show VM m s8 u = mA s8 83 u from VV_u hu]
