/-! expressions: the choice, in step -/
theorem ky3 : ∀ k, k ∈ vks → ((mWd k = 2 ∧ mVl k = 3) ↔ k = 213) := by decide
theorem ky5 : ∀ k, k ∈ vks → ((mWd k = 2 ∧ mVl k = 5) ↔ k = 215) := by decide
theorem ky8 : ∀ k, k ∈ vks → ((mWd k = 2 ∧ mVl k = 8) ↔ k = 218) := by decide
noncomputable def exC (rc : cd_R) (a : Int32) (c : cd_S) (b : cd_B) : Option Th :=
  if (cI c 328 0) = 213 then (Option.bind (rc 1 0 a 0 c b) fun q3 => cd_ck sF ((Sum.elim (fun (p : Int32 × cd_S × cd_B) => p.2.2) (fun (t : cd_S × cd_B) => t.2) q3)) <| Sum.elim (fun p3 => some (Sum.inl ((0 : Int32), p3.2.1, p3.2.2))) (fun t => some (Sum.inr t)) q3) else (if (cI c 328 0) = 215 then (Option.bind (rc 3 0 a 0 c b) fun q5 => cd_ck sF ((Sum.elim (fun (p : Int32 × cd_S × cd_B) => p.2.2) (fun (t : cd_S × cd_B) => t.2) q5)) <| Sum.elim (fun p5 => some (Sum.inl ((0 : Int32), p5.2.1, p5.2.2))) (fun t => some (Sum.inr t)) q5) else (if (cI c 328 0) = 218 then (Option.bind (rc 4 0 a 0 c b) fun q7 => cd_ck sF ((Sum.elim (fun (p : Int32 × cd_S × cd_B) => p.2.2) (fun (t : cd_S × cd_B) => t.2) q7)) <| Sum.elim (fun p7 => some (Sum.inl ((0 : Int32), p7.2.1, p7.2.2))) (fun t => some (Sum.inr t)) q7) else (Option.bind (rc 5 0 a 0 c b) fun q9 => cd_ck sF ((Sum.elim (fun (p : Int32 × cd_S × cd_B) => p.2.2) (fun (t : cd_S × cd_B) => t.2) q9)) <| Sum.elim (fun p9 => some (Sum.inl ((0 : Int32), p9.2.1, p9.2.2))) (fun t => some (Sum.inr t)) q9)))
theorem eok0 {pw : Nat} {B : Nat → Int32} {N : Nat} {c : cd_S} {m : md_S} {O : List Nat} {mc k kl : Nat} {L : List WD} : ∀ (v : Int32) (c' : cd_S) (b' : cd_B) (x : Int32) (m' : md_S), EOk pw B N c m O mc k kl L v c' b' x m' → EOk pw B N c m O mc k kl L 0 c' b' x m' := fun _ _ _ _ _ h => h
theorem whole_ok {n : Nat} {C : Nat × Nat} {B : Nat → Int32} {N : Nat} {rc : cd_R} {rm : md_R} {a : Int32} {dm kd : Nat} (h1 : EXw C B N (fun k => k = 213) (fun c b => rc 1 0 a 0 c b) (fun m => rm 6 0 0 0 m) dm kd 3) (h2 : EXw C B N (fun k => k = 215) (fun c b => rc 3 0 a 0 c b) (fun m => rm 8 0 0 0 m) dm kd 3) (h3 : EXw C B N (fun k => k = 218) (fun c b => rc 4 0 a 0 c b) (fun m => rm 9 0 0 0 m) dm kd 3) (h4 : EX C B N (fun c b => rc 5 0 a 0 c b) (cmpM n rm) dm kd 0) : EX C B N (exC rc a) (fun m => f_X12_wholeE n rm m) dm kd 0 := by
  intro c0 m0 c m b w L O mc k kl hc hm h hs h63 hkl
  dsimp only
  unfold exC f_X12_wholeE
  rw [h.k.1, m_isKey h.fine h.mw ky3, bs_some]
  dsimp only
  by_cases k1 : wK w = 213
  · rw [if_pos k1, if_pos k1, if_neg ne10]
    exact out_idm (out_idp ((h1.wk (Nat.zero_le _)) c0 m0 c m b w L O mc k kl hc hm h k1 hs h63 hkl) eok0)
  · rw [if_neg k1, if_neg k1, if_pos rfl, m_isKey h.fine h.mw ky5, bs_some]
    dsimp only
    by_cases k2 : wK w = 215
    · rw [if_pos k2, if_pos k2, if_neg ne10]
      exact out_idm (out_idp ((h2.wk (Nat.zero_le _)) c0 m0 c m b w L O mc k kl hc hm h k2 hs h63 hkl) eok0)
    · rw [if_neg k2, if_neg k2, if_pos rfl, m_isKey h.fine h.mw ky8, bs_some]
      dsimp only
      by_cases k3 : wK w = 218
      · rw [if_pos k3, if_pos k3, if_neg ne10]
        exact out_idm (out_idp ((h3.wk (Nat.zero_le _)) c0 m0 c m b w L O mc k kl hc hm h k3 hs h63 hkl) eok0)
      · rw [if_neg k3, if_neg k3, if_pos rfl]
        exact out_idp (h4 c0 m0 c m b w L O mc k kl hc hm h hs h63 hkl) eok0
theorem e_ok {n : Nat} {C : Nat × Nat} {B : Nat → Int32} {N : Nat} {rc : cd_R} {rm : md_R} {d kd : Nat} (hC : BC C) (hd : d ≤ 24) (hP : d < 24 → EX C B N (exC rc (nI (d + 1))) (fun m => rm 2 0 0 0 m) (d + 1) kd 0) : EX C B N (fun c b => f_X4_readExpression n rc c b (nI (d + 1))) (fun m => f_X12_e n rm m) d kd 6 := by
  intro c0 m0 c m b w L O mc k kl hc hm h hs h63 hkl
  dsimp only
  unfold f_X4_readExpression f_X12_e f_X4_readExpression_J23
  refine out_ck ?_
  rw [c_be h.k.1, cbe_v _ h.v, bs_some, m_be h.mw, bs_some]
  dsimp only
  by_cases hb : wK w ∈ beL
  · rw [if_pos hb]
    refine out_c c_need1 ?_
    dsimp only
    by_cases hd4 : d < 24
    · rw [if_neg (show ¬ (24 : Int32) < nI (d + 1) from fun y => absurd ((nI_ltI (a := 24) (by decide) (by omega)).mp y) (by omega)), m_deep1 h.fine h63 hd4, bs_some]
      dsimp only
      rw [if_neg ne10]
      refine out_c c_room1 ?_
      dsimp only
      have ff : md_fr [63] m (mSI m 63 (nI (d + 1))) := md_fr_SI (md_fr_refl _ _) (by decide) _
      obtain ⟨x, m1, e1, hm1, hcase⟩ := hP hd4 c0 m0 c (mSI m 63 (nI (d + 1))) b w L O mc k kl hc (hm.fr ff (by decide)) (h.fr (cd_fr_refl _ [] []) ff (by decide) (by decide) (by decide)) (hs.fr (cd_fr_refl _ [] []) ff (by decide) (by decide)) mI_SIe hkl
      rw [show rm 2 0 0 0 (mSI m 63 (nI (d + 1))) = _ from e1, bs_some]
      dsimp only
      rw [bs_some]
      have ff1 : md_fr [63] m1 (mSI m1 63 (mI m1 63 - 1)) := md_fr_SI (md_fr_refl _ _) (by decide) _
      refine ⟨x, _, rfl, hm1.fr ff1 (by decide), ?_⟩
      rcases hcase with ⟨v, c', b', g1, g2, hE⟩ | ⟨pl, g1, g2⟩ | ⟨c', b', k2, pl, g1, g2, g3⟩
      · left
        have e63 : mI m1 63 = nI (d + 1) := hE.2.2.1.n63.trans mI_SIe
        refine ⟨v, c', b', g1, g2, ?_⟩
        rw [e63, nI_back, ← h63]
        exact EOk.dep h63 hd4 hE
      · exact Or.inr (Or.inl ⟨pl, g1, g2.fr ff1 (by decide) (by decide)⟩)
      · exact Or.inr (Or.inr ⟨c', b', k2, pl, g1, g2, g3.fr ff1 (by decide) (by decide)⟩)
    · obtain rfl : d = 24 := by omega
      rw [if_pos (show (24 : Int32) < nI (24 + 1) by decide)]
      obtain ⟨c', b', e1, e2⟩ := c_room0 (n := n) hC hc.1 h.k.2.1
      obtain ⟨m', f1, f2, f3⟩ := m_deep24 (n := n) h h63
      refine out_thr e1 e2 hc (ble.refl _) (x := 0) (m' := m') ?_ (hm.fr f2 (by decide)) f3
      rw [f1, bs_some]
      rfl
  · rw [if_neg hb]
    obtain ⟨c', b', e1, e2⟩ := c_need0 (n := n) hC hc.1 h.k.2.1
    obtain ⟨m', f1, f2, f3⟩ := m_deep0 (n := n) h
    refine out_thr e1 e2 hc (ble.refl _) (x := 0) (m' := m') ?_ (hm.fr f2 (by decide)) f3
    rw [f1, bs_some]
    rfl
