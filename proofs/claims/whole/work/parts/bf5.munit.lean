/-! one unit's code in the model, behind its opening -/
theorem m_J76 {n : Nat} {m1 σ0 : md_S} {u U L p k f root l1 : Nat} {S : Nat → Prop} {R : Bool} {lo P : Int32 → Nat} {es : List EN} {ns pre : List Nat} {lp : md_S → Int32 → Option (md_S × Int32)} (hn : 5000 ≤ n) (hw : WX n m1 u U L p S R lo) (hk : k ≤ 1) (hr : root < 900) (h41 : mA m1 41 u = nI root) (hG : Gen m1 u f root 0 l1 es ns) (hnd : ns.Nodup) (hb : ∀ j, j ∈ ns → j < 2000 ∧ (j < 900 → j < mN m1 65)) (hl : ns.length ≤ 899) (hp0 : PUTS m1 σ0 p pre) (hLR : LR (ebs (hdF m1 S R) L lo P) P pre.length es) (hsz : p + pre.length + (ebs (hdF m1 S R) L lo P es).length + 1 ≤ 78000) : ∃ σ', f_X12_writeAll_J76 n (nI k) lp σ0 (nI u) = lp (mSA σ' 77 (2 * u + k) (nI (p + (pre ++ ebs (hdF m1 S R) L lo P (es ++ [(28, 0, 0)])).length))) (nI (u + 1)) ∧ PUTS m1 σ' p (pre ++ ebs (hdF m1 S R) L lo P (es ++ [(28, 0, 0)])) := by
  have hU := hw.1.2.1
  have hu := hw.2.1
  have f0 : md_fr [74, 75] m1 σ0 := hp0.1
  obtain ⟨s1, a1, a2⟩ := Gen.wr (P := P) (g := 1799) hn hw hG hnd hb (by omega) (by omega) σ0 (p + pre.length) f0 hp0.2.1 (by omega) (by omega) (by rw [show p + pre.length - p = pre.length by omega]; exact hLR)
  obtain ⟨s2, b1, b2⟩ := m_put (n := n) (b := 28) a2.2.1 (by omega)
  have e28 : ebs (hdF m1 S R) L lo P [(28, 0, 0)] = [28] := by rw [ebs_one]; exact eb_z (k := 28) (by decide) (by decide)
  have t : PUTS m1 s2 p (pre ++ ebs (hdF m1 S R) L lo P (es ++ [(28, 0, 0)])) := by
    have := hp0.tr (a2.tr b2)
    rw [ebs_app, e28]; exact this
  refine ⟨s2, ?_, t⟩
  unfold f_X12_writeAll_J76
  rw [m_ld41 (by omega), bs_some, md_frA f0 (by decide), h41, show md_Gw n 1800 0 (nI root) 0 0 σ0 = _ from a1, bs_some]
  dsimp only
  rw [show (28 : Int32) = nI 28 from rfl, b1, bs_some]
  dsimp only
  rw [show (2 : Int32) = nI 2 from rfl, nI_mul, nI_add, m_st77 (by omega), bs_some, t.2.1, nI_1]
  rfl
