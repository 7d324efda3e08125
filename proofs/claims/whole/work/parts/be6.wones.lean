/-! entries as the class writes them -/
theorem c_J50 {n : Nat} {C : Nat × Nat} {c0 c : cd_S} {b : cd_B} {u r L x k : Nat} {lo P : Int32 → Nat} {K : Int32 → Prop} {E : List EN} {t0 : Int32} {h : Bool} (hC : BC C) (hr : r < 197) (hru : r ≠ 17 + 3 * u) (hU : CU n c0 u r L lo K) (hf : cd_fr [79] [r] c0 c) (hBd : Bd C c b) (hE : SCP c u E) (hx : x < E.length) (hk : (E.getD x (0, 0, 0)).1 = nI k) (hk28 : k ≤ 28) (hw : WO c P (E.getD x (0, 0, 0))) (hK : (E.getD x (0, 0, 0)).1 = 2 ∨ (E.getD x (0, 0, 0)).1 = 3 → K (E.getD x (0, 0, 0)).2.1) (hz : rsz c r + 8 ≤ rcap r) (ht : (t0 = 1 ∧ h = true) ∨ (t0 = 0 ∧ h = false)) : ∃ c' b', f_X9_writeOne_J50 n u r c b (nI x) (E.getD x (0, 0, 0)).1 (E.getD x (0, 0, 0)).2.1 t0 = some (0, c', b') ∧ CPUT C r c c' b b' (if (E.getD x (0, 0, 0)).1 = 27 ∧ h = true then 2 :: pr L else hB h L k ++ ops lo P (E.getD x (0, 0, 0))) := by
  have n100 : (E.getD x (0, 0, 0)).1 ≠ 100 := fun y => absurd ((nI_eq (b := 100) (by omega) (by decide)).mp (hk.symm.trans y)) (by omega)
  unfold f_X9_writeOne_J50 f_X9_writeOne_J102 f_X9_writeOne_J115
  rw [if_neg n100]
  rcases ht with ⟨rfl, rfl⟩ | ⟨rfl, rfl⟩
  · rw [if_neg ne10]
    obtain ⟨c1, b1, a1, a2⟩ := c_a1 (n := n) (k := 2) hC hBd hr (by omega)
    have fr1 : cd_fr [79] [r] c0 c1 := cd_fr_tr hf a2.2.2.1 (fun k hk => ⟨hk, hk⟩) (fun k hk => ⟨hk, hk⟩)
    have s1 := a2.sz
    obtain ⟨c2, b2, d1, d2⟩ := c_a2 (n := n) (x := L) hC a2.1 hr (by rw [s1]; simp; omega) (by have := hU.1; omega)
    have s2 := d2.sz
    have t2 := a2.tr d2
    have fr2 : cd_fr [79] [r] c0 c2 := cd_fr_tr hf t2.2.2.1 (fun k hk => ⟨hk, hk⟩) (fun k hk => ⟨hk, hk⟩)
    rw [show f_X6_add n c b r 2 = _ from a1, bs_some]
    dsimp only
    rw [hU.2.1 c1 fr1, bs_some]
    dsimp only
    rw [d1, bs_some]
    by_cases h27 : (E.getD x (0, 0, 0)).1 = 27
    · rw [if_pos h27, if_neg ne10, if_pos ⟨h27, rfl⟩]
      exact ⟨c2, b2, c_ck (c_ck rfl (Nat.le_refl _) (Nat.le_refl _)) d2.2.1.1 d2.2.1.2, t2⟩
    · rw [if_neg h27, if_neg ne10, if_neg (show ¬ ((E.getD x (0, 0, 0)).1 = 27 ∧ true = true) from fun y => h27 y.1)]
      have e64 : (E.getD x (0, 0, 0)).1 + 64 = nI (k + 64) := by rw [hk, show (64 : Int32) = nI 64 from rfl, nI_add]
      rw [e64]
      obtain ⟨c3, b3, g1, g2⟩ := c_J133 (n := n) (t := k + 64) hC hr hru hU fr2 d2.1 (hE.fr t2.2.2.1 (by simp; omega)) hx hk hk28 (hw.of t2.2.2.2.1) hK (by rw [s2, s1, pr_len]; simp; omega)
      refine ⟨c3, b3, ?_, ?_⟩
      · dsimp only
        rw [g1]
        exact c_ck (c_ck rfl g2.2.1.1 g2.2.1.2) (g2.2.1.tr d2.2.1).1 (g2.2.1.tr d2.2.1).2
      · have := t2.tr g2
        have e : hB true L k ++ ops lo P (E.getD x (0, 0, 0)) = [2] ++ pr L ++ (k + 64) :: ops lo P (E.getD x (0, 0, 0)) := by
          unfold hB
          rw [if_pos rfl]
          simp
        rw [e]; exact this
  · rw [if_pos rfl]
    obtain ⟨c3, b3, g1, g2⟩ := c_J133 (n := n) (t := k) hC hr hru hU hf hBd hE hx hk hk28 hw hK (by omega)
    have g1' : f_X9_writeOne_J133 n u r c b (nI x) (E.getD x (0, 0, 0)).1 (E.getD x (0, 0, 0)).2.1 (E.getD x (0, 0, 0)).1.toInt64 = some (0, c3, b3) := by
      have : (E.getD x (0, 0, 0)).1.toInt64 = (nI k).toInt64 := by rw [hk]
      rw [this]; exact g1
    rw [if_neg (show ¬ ((E.getD x (0, 0, 0)).1 = 27 ∧ false = true) from fun y => absurd y.2 (by decide))]
    refine ⟨c3, b3, ?_, g2⟩
    by_cases h27 : (E.getD x (0, 0, 0)).1 = 27
    · rw [if_pos h27, if_pos rfl, if_pos rfl]; exact g1'
    · rw [if_neg h27, if_pos rfl]; exact g1'
theorem c_wone {n : Nat} {C : Nat × Nat} {c0 c : cd_S} {m : md_S} {b : cd_B} {u r L x k : Nat} {lo P : Int32 → Nat} {K : Int32 → Prop} {E : List EN} {S : Nat → Prop} {R : Bool} (hC : BC C) (hr : r < 197) (hrR : r = if R = true then 19 + 3 * u else 18 + 3 * u) (hU : CU n c0 u r L lo K) (hf : cd_fr [79] [r] c0 c) (hBd : Bd C c b) (hE : SCP c u E) (hx : x < E.length) (hk : (E.getD x (0, 0, 0)).1 = nI k) (hk28 : k ≤ 28) (hw : WO c P (E.getD x (0, 0, 0))) (hK : (E.getD x (0, 0, 0)).1 = 2 ∨ (E.getD x (0, 0, 0)).1 = 3 → K (E.getD x (0, 0, 0)).2.1) (hz : rsz c r + 8 ≤ rcap r) (hh : R = true → cI c 301 u ≠ 0 → ∃ v, f_X2_handsContext n c (E.getD x (0, 0, 0)).1 (E.getD x (0, 0, 0)).2.1 (E.getD x (0, 0, 0)).2.2 = some (v, c) ∧ bI (HE m S (E.getD x (0, 0, 0))) v) (hn : HE m S (E.getD x (0, 0, 0)) → cI c 301 u ≠ 0) : ∃ c' b', f_X9_writeOne n c b u r (nI x) = some (0, c', b') ∧ CPUT C r c c' b b' (eb (hdF m S R) L lo P (E.getD x (0, 0, 0))) := by
  have hru : r ≠ 17 + 3 * u := by rw [hrR]; split <;> omega
  have n100 : (E.getD x (0, 0, 0)).1 ≠ 100 := fun y => absurd ((nI_eq (b := 100) (by omega) (by decide)).mp (hk.symm.trans y)) (by omega)
  obtain ⟨w1, w2, w3⟩ := c_ent (n := n) hE hx
  have heb : ∀ hb : Bool, hdF m S R (E.getD x (0, 0, 0)) = hb → eb (hdF m S R) L lo P (E.getD x (0, 0, 0)) = if (E.getD x (0, 0, 0)).1 = 27 ∧ hb = true then 2 :: pr L else hB hb L k ++ ops lo P (E.getD x (0, 0, 0)) := by
    intro hb e
    unfold eb
    rw [if_neg n100, e]
    have : oN (E.getD x (0, 0, 0)).1 = k := by rw [hk, oN_nI (by omega)]
    rw [this]
  have j0 : hdF m S R (E.getD x (0, 0, 0)) = false → ∃ c' b', f_X9_writeOne_J49 n u r c b (nI x) (E.getD x (0, 0, 0)).1 (E.getD x (0, 0, 0)).2.1 = some (0, c', b') ∧ CPUT C r c c' b b' (eb (hdF m S R) L lo P (E.getD x (0, 0, 0))) := by
    intro hd
    rw [heb false hd]
    exact c_J50 hC hr hru hU hf hBd hE hx hk hk28 hw hK hz (Or.inr ⟨rfl, rfl⟩)
  have wrap : ∀ {f : Option (Int32 × cd_S × cd_B)}, (∃ c' b', f = some (0, c', b') ∧ CPUT C r c c' b b' (eb (hdF m S R) L lo P (E.getD x (0, 0, 0)))) → ∃ c' b', cd_ck (fun (q : (Int32 × cd_S × cd_B)) => q.2.2) b f = some (0, c', b') ∧ CPUT C r c c' b b' (eb (hdF m S R) L lo P (E.getD x (0, 0, 0))) := by
    rintro f ⟨c', b', e1, e2⟩
    exact ⟨c', b', c_ck e1 e2.2.1.1 e2.2.1.2, e2⟩
  unfold f_X9_writeOne
  refine wrap ?_
  rw [w1, bs_some]
  dsimp only
  rw [w2, bs_some]
  dsimp only
  cases hR : R
  · rw [hR, if_neg (by decide)] at hrR
    rw [if_neg (by omega), ← hR]
    refine j0 ?_
    rw [hR]; rfl
  · rw [hR, if_pos rfl] at hrR
    rw [if_pos hrR, ← hR]
    by_cases h301 : cI c 301 u = 0
    · rw [if_pos h301]
      exact j0 (hdF_no (fun y => hn y h301))
    · rw [if_neg h301, w3, bs_some]
      dsimp only
      obtain ⟨v, v1, v2⟩ := hh hR h301
      rw [v1, bs_some]
      dsimp only
      rcases v2 with ⟨rfl, hv⟩ | ⟨rfl, hv⟩
      · rw [if_neg ne10, heb true (hdF_iff.mpr ⟨hR, hv⟩)]
        exact c_J50 hC hr hru hU hf hBd hE hx hk hk28 hw hK hz (Or.inl ⟨rfl, rfl⟩)
      · rw [if_pos rfl]
        exact j0 (hdF_no hv)
