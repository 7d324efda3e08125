/-! the model finds the domains -/
theorem m_domL {n : Nat} {m : md_S} {d : Nat} {v : Int32} {T : List Int32} (hd : d < 8) (hT : T.length ≤ 8) (h34 : mI m 34 = nI T.length) (h33 : ∀ t, t < T.length → T[t]? = some (mA m 33 t)) : ∀ (e j x : Nat) (m1 : md_S), x + e = T.length → e < j → md_fr [32] m m1 → ∃ m2, f_X12_findDomains_L66 n (nI d) v j m1 (nI x) = some (m2, nI T.length) ∧ md_fr [32] m m2 ∧ (∀ i, i ≠ d → mA m2 32 i = mA m1 32 i) ∧ ((∃ t, x ≤ t ∧ t < T.length ∧ T[t]? = some v ∧ mA m2 32 d = nI t) ∨ ((∀ t, x ≤ t → t < T.length → T[t]? ≠ some v) ∧ mA m2 32 d = mA m1 32 d)) := by
  intro e
  induction e with
  | zero =>
    intro j x m1 hx hj hf
    obtain ⟨j, rfl⟩ : ∃ q, j = q + 1 := ⟨j - 1, by omega⟩
    obtain rfl : x = T.length := by omega
    refine ⟨m1, ?_, hf, fun _ _ => rfl, Or.inr ⟨fun t h1 h2 => by omega, rfl⟩⟩
    rw [u_X12_findDomains_L66, md_frI hf (by decide), h34, if_pos ((nI_leI (by omega) (by omega)).mpr (Nat.le_refl _))]
  | succ e ih =>
    intro j x m1 hx hj hf
    obtain ⟨j, rfl⟩ : ∃ q, j = q + 1 := ⟨j - 1, by omega⟩
    have hx2 := h33 x (by omega)
    have hst : ∀ w : Int32, md_fr [32] m (mSA m1 32 d w) := fun w => md_fr_SA hf (by decide) _ _
    rw [u_X12_findDomains_L66, md_frI hf (by decide), h34, if_neg (fun y => absurd ((nI_leI (by omega) (by omega)).mp y) (by omega)), m_ld33 (by omega), bs_some, md_frA hf (by decide)]
    unfold f_X12_findDomains_J99
    by_cases hv : mA m 33 x = v
    · rw [if_pos hv, m_st32 hd, bs_some, nI_1]
      obtain ⟨m2, a1, a2, a3, a4⟩ := ih j (x + 1) (mSA m1 32 d (nI x)) (by omega) (by omega) (hst _)
      refine ⟨m2, a1, a2, fun i hi => (a3 i hi).trans (mA_SAi hi), ?_⟩
      rcases a4 with ⟨t, t1, t2, t3, t4⟩ | ⟨t1, t2⟩
      · exact Or.inl ⟨t, by omega, t2, t3, t4⟩
      · exact Or.inl ⟨x, Nat.le_refl _, by omega, by rw [hx2, hv], t2.trans mA_SAe⟩
    · rw [if_neg hv, m_ld32 hd, bs_some, m_st32 hd, bs_some, nI_1]
      obtain ⟨m2, a1, a2, a3, a4⟩ := ih j (x + 1) (mSA m1 32 d (mA m1 32 d)) (by omega) (by omega) (hst _)
      refine ⟨m2, a1, a2, fun i hi => (a3 i hi).trans (mA_SAi hi), ?_⟩
      rcases a4 with ⟨t, t1, t2, t3, t4⟩ | ⟨t1, t2⟩
      · exact Or.inl ⟨t, by omega, t2, t3, t4⟩
      · refine Or.inr ⟨fun t h1 h2 => ?_, t2.trans mA_SAe⟩
        by_cases htx : t = x
        · rw [htx, hx2]; exact fun y => hv (Option.some.inj y)
        · exact t1 t (by omega) h2
/-- the model's table of domains -/
def DTm (m : md_S) (k : Nat → Int32) (mc : Nat) : Prop := mI m 34 = nI (dtab k mc).length ∧ (∀ t, t < (dtab k mc).length → (dtab k mc)[t]? = some (mA m 33 t)) ∧ ∀ i, i < mc → ∃ t, t < (dtab k mc).length ∧ mA m 32 i = nI t ∧ (dtab k mc)[t]? = some (k i)
theorem m_fdoL {n : Nat} {m0 : md_S} {k : Nat → Int32} {mc g : Nat} (hn : 5000 ≤ n) (hmc : mc ≤ 8) (h25 : mI m0 25 = nI mc) (hk : ∀ d, d < mc → ∀ m1, md_fr [32, 33, 34] m0 m1 → f_X12_findDomains_L19 n (nI d) n m1 0 0 = some (m1, k d, nI g)) : ∀ (e j d : Nat) (m : md_S), d + e = mc → e < j → md_fr [32, 33, 34] m0 m → DTm m k d → ∃ m', f_X12_findDomains_L7 n j m (nI d) = some (m', nI mc) ∧ md_fr [32, 33, 34] m0 m' ∧ DTm m' k mc := by
  intro e
  induction e with
  | zero =>
    intro j d m hd hj hf hD
    obtain ⟨j, rfl⟩ : ∃ q, j = q + 1 := ⟨j - 1, by omega⟩
    obtain rfl : d = mc := by omega
    refine ⟨m, ?_, hf, hD⟩
    rw [u_X12_findDomains_L7, md_frI hf (by decide), h25, if_pos ((nI_leI (by omega) (by omega)).mpr (Nat.le_refl _))]
  | succ e ih =>
    intro j d m hd hj hf hD
    obtain ⟨j, rfl⟩ : ∃ q, j = q + 1 := ⟨j - 1, by omega⟩
    obtain ⟨h34, h33, h32⟩ := hD
    have hlen := dtab_len k d
    have hd8 : d < 8 := by omega
    have f1 : md_fr [32] m (mSA m 32 d (-1)) := md_fr_SA (md_fr_refl _ _) (by decide) _ _
    obtain ⟨m2, a1, a2, a3, a4⟩ := m_domL (n := n) (d := d) (v := k d) (T := dtab k d) hd8 (by omega) h34 h33 (dtab k d).length n 0 (mSA m 32 d (-1)) (by omega) (by omega) f1
    rw [u_X12_findDomains_L7, md_frI hf (by decide), h25, if_neg (fun y => absurd ((nI_leI (by omega) (by omega)).mp y) (by omega)), hk d (by omega) m hf, bs_some]
    dsimp only
    rw [m_st32 hd8, bs_some, show f_X12_findDomains_L66 n (nI d) (k d) n (mSA m 32 d (-1)) 0 = _ from a1, bs_some]
    dsimp only
    rw [m_ld32 hd8, bs_some]
    unfold f_X12_findDomains_J146
    have x34 : mI m2 34 = nI (dtab k d).length := by rw [md_frI a2 (by decide)]; exact h34
    have f2 : md_fr [32, 33, 34] m0 m2 := md_fr_tr hf a2 (fun k hk => ⟨hk, fun y => hk (by simp at y; simp [y])⟩)
    have o32 : ∀ i, i ≠ d → mA m2 32 i = mA m 32 i := fun i hi => (a3 i hi).trans (mA_SAi hi)
    rw [nI_1]
    rcases a4 with ⟨t, -, t2, t3, t4⟩ | ⟨t1, t2⟩
    · rw [t4, if_neg (nI_nem1 (by omega))]
      have hin : k d ∈ dtab k d := List.mem_of_getElem? t3
      refine ih j (d + 1) m2 (by omega) (by omega) f2 ⟨?_, ?_, fun i hi => ?_⟩
      · rw [dtab_in hin]; exact x34
      · rw [dtab_in hin]
        intro s hs
        rw [md_frA a2 (by decide)]; exact h33 s hs
      · rw [dtab_in hin]
        by_cases hid : i = d
        · rw [hid]; exact ⟨t, t2, t4, t3⟩
        · rw [o32 i hid]; exact h32 i (by omega)
    · rw [t2, mA_SAe, if_pos rfl, m_st32 hd8, bs_some, mI_SA, x34, m_st33 (by omega), bs_some, bs_some, mI_SA, mI_SA, x34, nI_1]
      have hout : k d ∉ dtab k d := by
        intro y
        obtain ⟨t, t5, t6⟩ := List.getElem_of_mem y
        exact t1 t (by omega) t5 (by rw [List.getElem?_eq_getElem t5, t6])
      have hl : (dtab k (d + 1)).length = (dtab k d).length + 1 := by rw [dtab_out hout, List.length_append]; rfl
      have f3 : md_fr [32, 33, 34] m0 (mSI (mSA (mSA m2 32 d (nI (dtab k d).length)) 33 (dtab k d).length (k d)) 34 (nI ((dtab k d).length + 1))) := md_fr_SI (md_fr_SA (md_fr_SA f2 (by decide) _ _) (by decide) _ _) (by decide) _
      refine ih j (d + 1) _ (by omega) (by omega) f3 ⟨?_, fun s hs => ?_, fun i hi => ?_⟩
      · rw [mI_SIe, hl]
      · rw [hl] at hs
        show (dtab k (d + 1))[s]? = some (mA (mSA (mSA m2 32 d (nI (dtab k d).length)) 33 (dtab k d).length (k d)) 33 s)
        rw [dtab_out hout]
        by_cases hsl : s = (dtab k d).length
        · rw [hsl, mA_SAe, List.getElem?_append_right (Nat.le_refl _), Nat.sub_self]; rfl
        · rw [mA_SAi hsl, mA_SAo (by decide), List.getElem?_append_left (by omega), md_frA a2 (by decide)]
          exact h33 s (by omega)
      · have z : mA (mSI (mSA (mSA m2 32 d (nI (dtab k d).length)) 33 (dtab k d).length (k d)) 34 (nI ((dtab k d).length + 1))) 32 i = mA (mSA m2 32 d (nI (dtab k d).length)) 32 i := by
          show mA (mSA (mSA m2 32 d (nI (dtab k d).length)) 33 (dtab k d).length (k d)) 32 i = _
          rw [mA_SAo (by decide)]
        rw [z]
        by_cases hid : i = d
        · rw [hid]
          refine ⟨(dtab k d).length, by omega, mA_SAe, ?_⟩
          rw [dtab_out hout, List.getElem?_append_right (Nat.le_refl _), Nat.sub_self]; rfl
        · obtain ⟨t, t3, t4, t5⟩ := h32 i (by omega)
          refine ⟨t, by omega, by rw [mA_SAi hid, o32 i hid]; exact t4, ?_⟩
          rw [dtab_out hout, List.getElem?_append_left t3]; exact t5
theorem fdom_ok {n : Nat} {m : md_S} {k : Nat → Int32} {mc g : Nat} (hn : 5000 ≤ n) (hmc : mc ≤ 8) (h25 : mI m 25 = nI mc) (hk : ∀ d, d < mc → ∀ m1, md_fr [32, 33, 34] m m1 → f_X12_findDomains_L19 n (nI d) n m1 0 0 = some (m1, k d, nI g)) : ∃ m', f_X12_findDomains n m = some (0, m') ∧ md_fr [32, 33, 34] m m' ∧ DTm m' k mc := by
  have f1 : md_fr [32, 33, 34] m (mSI m 34 0) := md_fr_SI (md_fr_refl _ _) (by decide) _
  obtain ⟨m', a1, a2, a3⟩ := m_fdoL (n := n) hn hmc h25 hk mc n 0 (mSI m 34 0) (by omega) (by omega) f1 ⟨mI_SIe, fun t ht => absurd ht (by simp [dtab]), fun i hi => absurd hi (by omega)⟩
  refine ⟨m', ?_, a2, a3⟩
  unfold f_X12_findDomains
  rw [bs_some, show f_X12_findDomains_L7 n n (mSI m 34 0) 0 = _ from a1, bs_some]
