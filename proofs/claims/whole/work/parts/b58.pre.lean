/-! prefixes: the choice, in step -/
theorem ky19 : ∀ k, k ∈ vks → ((mWd k = 2 ∧ mVl k = 19) ↔ k = 229) := by decide
theorem ky22 : ∀ k, k ∈ vks → ((mWd k = 2 ∧ mVl k = 22) ↔ k = 232) := by decide
theorem ky20 : ∀ k, k ∈ vks → ((mWd k = 2 ∧ mVl k = 20) ↔ k = 230) := by decide
theorem ky21 : ∀ k, k ∈ vks → ((mWd k = 2 ∧ mVl k = 21) ↔ k = 231) := by decide
theorem ky10 : ∀ k, k ∈ vks → ((mWd k = 2 ∧ mVl k = 10) ↔ k = 220) := by decide
theorem ky11 : ∀ k, k ∈ vks → ((mWd k = 2 ∧ mVl k = 11) ↔ k = 221) := by decide
theorem prefix_ok {n : Nat} {C : Nat × Nat} {B : Nat → Int32} {N : Nat} {rc : cd_R} {rm : md_R} {a : Int32} {dm kd : Nat} (h21 : EXw C B N (fun k => k = 229) (fun c b => rc 10 0 21 a c b) (fun m => f_X12_prefix_J36 n rm m) dm kd 3) (h22 : EXw C B N (fun k => k = 232) (fun c b => rc 10 0 22 a c b) (fun m => f_X12_prefix_J36 n rm m) dm kd 3) (h23 : EXw C B N (fun k => k = 230) (fun c b => rc 10 0 23 a c b) (fun m => f_X12_prefix_J36 n rm m) dm kd 3) (h24 : EXw C B N (fun k => k = 231) (fun c b => rc 10 0 24 a c b) (fun m => f_X12_prefix_J36 n rm m) dm kd 3) (hpv : EXw C B N (fun k => k = 220) (fun c b => rc 11 0 a 0 c b) (fun m => rm 11 0 0 0 m) dm kd 3) (hun : EXw C B N (fun k => k = 221) (fun c b => rc 12 0 a 0 c b) (fun m => rm 13 0 0 0 m) dm kd 3) (hpo : EXw C B N (fun k => k ∈ bpL ∧ k ≠ 220 ∧ k ≠ 221 ∧ k ≠ 229 ∧ k ≠ 230 ∧ k ≠ 231 ∧ k ≠ 232) (fun c b => rc 13 0 a 0 c b) (fun m => rm 14 0 0 0 m) dm kd 3) : EXw C B N (fun k => k ∈ bpL) (fun c b => f_X4_readPrefix n rc c b a) (fun m => f_X12_prefix n rm m) dm kd 3 := by
  intro c0 m0 c m b w L O mc k kl hc hm h hP hs h63 hkl
  dsimp only at hP ⊢
  unfold f_X4_readPrefix f_X12_prefix f_X4_readPrefix_J140
  refine out_ck ?_
  rw [c_bp h.k.1, cbp_v _ h.v, if_pos hP, bs_some]
  refine out_c c_need1 ?_
  dsimp only
  rw [h.k.1, m_isKey h.fine h.mw ky19, bs_some]
  dsimp only
  by_cases k1 : wK w = 229
  · rw [if_pos k1, if_pos k1, if_neg ne10, k1, if_neg (show ¬ (229 : Int32) = 220 by decide), if_neg (show ¬ (229 : Int32) = 221 by decide)]
    exact out_idp (h21 c0 m0 c m b w L O mc k kl hc hm h k1 hs h63 hkl) eok0
  rw [if_neg k1, if_neg k1, if_pos rfl, m_isKey h.fine h.mw ky22, bs_some]
  dsimp only
  by_cases k2 : wK w = 232
  · rw [if_pos k2, if_pos k2, if_neg ne10, k2, if_neg (show ¬ (232 : Int32) = 220 by decide), if_neg (show ¬ (232 : Int32) = 221 by decide), if_neg (show ¬ (232 : Int32) = 230 by decide), if_neg (show ¬ (232 : Int32) = 231 by decide)]
    exact out_idp (h22 c0 m0 c m b w L O mc k kl hc hm h k2 hs h63 hkl) eok0
  rw [if_neg k2, if_neg k2, if_pos rfl, m_isKey h.fine h.mw ky20, bs_some]
  dsimp only
  by_cases k3 : wK w = 230
  · rw [if_pos k3, if_pos k3, if_neg ne10, k3, if_neg (show ¬ (230 : Int32) = 220 by decide), if_neg (show ¬ (230 : Int32) = 221 by decide)]
    exact out_idp (h23 c0 m0 c m b w L O mc k kl hc hm h k3 hs h63 hkl) eok0
  rw [if_neg k3, if_neg k3, if_pos rfl, m_isKey h.fine h.mw ky21, bs_some]
  dsimp only
  by_cases k4 : wK w = 231
  · rw [if_pos k4, if_pos k4, if_neg ne10, k4, if_neg (show ¬ (231 : Int32) = 220 by decide), if_neg (show ¬ (231 : Int32) = 221 by decide)]
    exact out_idp (h24 c0 m0 c m b w L O mc k kl hc hm h k4 hs h63 hkl) eok0
  rw [if_neg k4, if_neg k4, if_pos rfl, m_isKey h.fine h.mw ky10, bs_some]
  dsimp only
  by_cases k5 : wK w = 220
  · rw [if_pos k5, if_pos k5, if_neg ne10]
    exact out_idm (out_idp (hpv c0 m0 c m b w L O mc k kl hc hm h k5 hs h63 hkl) eok0)
  rw [if_neg k5, if_neg k5, if_pos rfl, m_isKey h.fine h.mw ky11, bs_some]
  dsimp only
  by_cases k6 : wK w = 221
  · rw [if_pos k6, if_pos k6, if_neg ne10]
    exact out_idm (out_idp (hun c0 m0 c m b w L O mc k kl hc hm h k6 hs h63 hkl) eok0)
  rw [if_neg k6, if_neg k6, if_pos rfl]
  exact out_idm (out_idp (hpo c0 m0 c m b w L O mc k kl hc hm h ⟨hP, k5, k6, k1, k3, k4, k2⟩ hs h63 hkl) eok0)
