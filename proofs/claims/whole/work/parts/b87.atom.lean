/-! atoms: the choice, in step -/
theorem ky14 : ∀ k, k ∈ vks → ((mWd k = 2 ∧ mVl k = 14) ↔ k = 224) := by decide
theorem ky15 : ∀ k, k ∈ vks → ((mWd k = 2 ∧ mVl k = 15) ↔ k = 225) := by decide
theorem ky16 : ∀ k, k ∈ vks → ((mWd k = 2 ∧ mVl k = 16) ↔ k = 226) := by decide
theorem ky13 : ∀ k, k ∈ vks → ((mWd k = 2 ∧ mVl k = 13) ↔ k = 223) := by decide
theorem ky12 : ∀ k, k ∈ vks → ((mWd k = 2 ∧ mVl k = 12) ↔ k = 222) := by decide
theorem ky17 : ∀ k, k ∈ vks → ((mWd k = 2 ∧ mVl k = 17) ↔ k = 227) := by decide
theorem ky18 : ∀ k, k ∈ vks → ((mWd k = 2 ∧ mVl k = 18) ↔ k = 228) := by decide
def atP (k : Int32) : Prop := k ∈ bpL ∧ k ≠ 220 ∧ k ≠ 221 ∧ k ≠ 229 ∧ k ≠ 230 ∧ k ≠ 231 ∧ k ≠ 232
theorem atP_cases : ∀ k, k ∈ bpL → k ≠ 220 → k ≠ 221 → k ≠ 229 → k ≠ 230 → k ≠ 231 → k ≠ 232 → k = 2 ∨ k = 3 ∨ k = 40 ∨ k = 123 ∨ k = 222 ∨ k = 223 ∨ k = 224 ∨ k = 225 ∨ k = 226 ∨ k = 227 ∨ k = 228 := by decide
theorem atom_ok {n : Nat} {C : Nat × Nat} {B : Nat → Int32} {N : Nat} {rc : cd_R} {rm : md_R} {a : Int32} {dm kd : Nat} (hC : BC C) (hn : 5000 ≤ n) (hkd : kd ≤ 30) (hx : EX C B N (fun c b => rc 0 0 (a + 1) 0 c b) (fun m => rm 0 0 0 0 m) dm kd 6) (hnx : NFX (fun m => rm 0 0 0 0 m)) (hbx : BWX C (fun c b => rc 0 0 (a + 1) 0 c b)) (hrow : EXw C B N (fun k => k = 123) (fun c b => rc 18 0 a 0 c b) (fun m => rm 19 0 0 0 m) dm kd 6) (hfun : EXw C B N (fun k => k = 222) (fun c b => rc 17 0 a 0 c b) (fun m => rm 18 0 0 0 m) dm kd 3) (h25 : EXw C B N (fun k => k = 227) (fun c b => rc 19 0 25 a c b) (fun m => rm 20 0 0 0 m) dm kd 3) (h26 : EXw C B N (fun k => k = 228) (fun c b => rc 19 0 26 a c b) (fun m => rm 20 0 0 0 m) dm kd 3) : EXw C B N atP (fun c b => f_X4_readAtom n rc c b a) (fun m => f_X12_atom n rm m) dm kd 3 := by
  intro c0 m0 c m b w L O mc k kl hc hm h hP hs h63 hkl
  dsimp only at hP ⊢
  have hcs := atP_cases _ hP.1 hP.2.1 hP.2.2.1 hP.2.2.2.1 hP.2.2.2.2.1 hP.2.2.2.2.2.1 hP.2.2.2.2.2.2
  unfold f_X4_readAtom f_X12_atom f_X12_atom_J130
  refine out_ck ?_
  have h8 := h.mw.2.1
  rw [h.k.1, h8]
  by_cases k3 : wK w = 3
  · rw [k3, if_neg (by decide), if_neg (by decide), if_neg (by decide), if_neg (by decide), if_neg (by decide), if_neg (by decide), if_pos (show mWd 3 = (3 : Int32) by decide)]
    exact out_idp (num_ok hC hn hkd c0 m0 c m b w L O mc k kl hc hm h k3 hs h63 hkl) eok0
  by_cases k2 : wK w = 2
  · rw [k2, if_neg (by decide), if_neg (by decide), if_neg (by decide), if_neg (by decide), if_neg (by decide), if_neg (by decide), if_neg (show ¬ mWd 2 = (3 : Int32) by decide), if_pos (show mWd 2 = (1 : Int32) by decide)]
    exact out_idm (out_idp (name_atom hC hn hkd c0 m0 c m b w L O mc k kl hc hm h k2 hs h63 hkl) eok0)
  have n3 : ¬ mWd (wK w) = (3 : Int32) := by
    have : ∀ k, k ∈ vks → (mWd k = 3 ↔ k = 3) := by decide
    exact fun y => k3 ((this _ h.mw.1).mp y)
  have n1 : ¬ mWd (wK w) = (1 : Int32) := by
    have : ∀ k, k ∈ vks → (mWd k = 1 ↔ k = 2) := by decide
    exact fun y => k2 ((this _ h.mw.1).mp y)
  rw [if_neg n3, if_neg n1, m_isKey h.fine h.mw ky14, bs_some]
  dsimp only
  by_cases k224 : wK w = 224
  · rw [if_pos k224, if_neg ne10, k224, if_neg (by decide), if_neg (by decide), if_neg (by decide), if_neg (by decide), if_neg (by decide), if_neg (by decide)]
    exact out_idm (out_idp (none_ok hC hn hkd (Or.inl ⟨rfl, rfl⟩) c0 m0 c m b w L O mc k kl hc hm h k224 hs h63 hkl) eok0)
  rw [if_neg k224, if_pos rfl, m_isKey h.fine h.mw ky15, bs_some]
  dsimp only
  by_cases k225 : wK w = 225
  · rw [if_pos k225, if_neg ne10, k225, if_neg (by decide), if_neg (by decide), if_neg (by decide), if_neg (by decide), if_neg (by decide), if_neg (by decide)]
    exact out_idm (out_idp (self_ok hC hn hkd c0 m0 c m b w L O mc k kl hc hm h k225 hs h63 hkl) eok0)
  rw [if_neg k225, if_pos rfl, m_isKey h.fine h.mw ky16, bs_some]
  dsimp only
  by_cases k226 : wK w = 226
  · rw [if_pos k226, if_neg ne10, k226, if_neg (by decide), if_neg (by decide), if_neg (by decide), if_neg (by decide), if_neg (by decide), if_neg (by decide)]
    exact out_idm (out_idp (none_ok hC hn hkd (Or.inr ⟨rfl, rfl⟩) c0 m0 c m b w L O mc k kl hc hm h k226 hs h63 hkl) eok0)
  rw [if_neg k226, if_pos rfl, m_isKey h.fine h.mw ky13, bs_some]
  dsimp only
  by_cases k223 : wK w = 223
  · rw [if_pos k223, if_pos k223, if_neg ne10, k223, if_neg (by decide), if_neg (by decide), if_neg (by decide)]
    exact out_idm (out_idp (new_ok hC hn hkd c0 m0 c m b w L O mc k kl hc hm h k223 hs h63 hkl) eok0)
  rw [if_neg k223, if_neg k223, if_pos rfl, m_isKey h.fine h.mw ky12, bs_some]
  dsimp only
  by_cases k222 : wK w = 222
  · rw [if_pos k222, if_pos k222, if_neg ne10, k222, if_neg (by decide), if_neg (by decide)]
    exact out_idm (out_idp (hfun c0 m0 c m b w L O mc k kl hc hm h k222 hs h63 hkl) eok0)
  rw [if_neg k222, if_neg k222, if_pos rfl, m_isKey h.fine h.mw ky17, bs_some]
  dsimp only
  by_cases k227 : wK w = 227
  · rw [if_pos k227, if_pos k227, if_neg ne10, k227, if_neg (by decide), if_neg (by decide)]
    exact out_idm (out_idp (h25 c0 m0 c m b w L O mc k kl hc hm h k227 hs h63 hkl) eok0)
  rw [if_neg k227, if_neg k227, if_pos rfl, m_isKey h.fine h.mw ky18, bs_some]
  dsimp only
  by_cases k228 : wK w = 228
  · rw [if_pos k228, if_pos k228, if_neg ne10, k228, if_neg (by decide), if_neg (by decide)]
    exact out_idm (out_idp (h26 c0 m0 c m b w L O mc k kl hc hm h k228 hs h63 hkl) eok0)
  rw [if_neg k228, if_neg k228, if_pos rfl, m_isSign h.fine h.mw sg123, bs_some]
  dsimp only
  by_cases k123 : wK w = 123
  · rw [if_pos k123, if_pos k123, if_neg ne10, k123, if_neg (by decide)]
    exact out_idm (out_idp ((hrow.wk (show 3 ≤ 6 by omega)) c0 m0 c m b w L O mc k kl hc hm h k123 hs h63 hkl) eok0)
  rw [if_neg k123, if_neg k123, if_pos rfl, m_isSign h.fine h.mw sg40, bs_some]
  dsimp only
  have k40 : wK w = 40 := by
    rcases hcs with y | y | y | y | y | y | y | y | y | y | y
    · exact absurd y k2
    · exact absurd y k3
    · exact y
    · exact absurd y k123
    · exact absurd y k222
    · exact absurd y k223
    · exact absurd y k224
    · exact absurd y k225
    · exact absurd y k226
    · exact absurd y k227
    · exact absurd y k228
  rw [if_pos k40, if_pos k40, if_neg ne10]
  obtain ⟨c3, m3, a1, a2, a3, a4, ⟨w3, L3, hL3, a5⟩, a6⟩ := adv_ok (n := n) hn h (by rw [k40]; decide)
  rw [a1, bs_some, a2, bs_some]
  dsimp only
  have hc3 : CI C c0 b c3 b := hc.fr a3 (by decide)
  have hm3 : MI m0 m3 := hm.fr a4 (by decide)
  have cn0 : cN c 66 = mN m 35 := hs.nv.2.2.2.2.2.1
  have cn3 : cN c3 66 = cN c 66 := by rw [cN, cN, cd_frI a3 (by decide) (by decide)]
  rcases a5 with hX3 | ⟨hbw, hnf⟩
  · have hs3 := hs.adv a3 a4
    have hg3 : GR c c3 m m3 := GR.adv a3 a4 hs.nv.2.1 (a6 hX3.fine)
    refine out_seq (hx c0 m0 c3 m3 b w3 L3 O mc k kl hc3 hm3 hX3 hs3 (by rw [md_frI a4 (by decide)]; exact h63) hkl) ?_ ?_ ?_
    · intro v6 c6 b6 x6 m6 hc6 hm6 hE6
      dsimp only
      obtain ⟨w6, L6, hX6, hl6⟩ := hE6.1
      refine out_seq (pass_out (s := 41) (sk := 41) hC hn hc6.here hm6 hX6 sg41 (by decide)) ?_ ?_ (fun _ z k2 pl h1 h2 => ⟨_, _, rfl, h1, h2⟩)
      · rintro v7 c7 b7 x7 m7 hc7 hm7 ⟨rfl, hk7, ⟨w7, L7, hL7, hX7⟩, fc7, fm7, s7⟩
        dsimp only
        refine ⟨x6, m7, rfl, hm7, Or.inl ⟨0, c7, b7, rfl, hc7.here, ?_⟩⟩
        have hE7 : EOk 6 B N c3 m3 O mc k kl L3 v6 c7 b7 x6 m7 := hE6.adv hs3 fc7 fm7 s7 hX7 (by rw [hL7] at hl6; simp at hl6; omega)
        exact (hE7.wk (show 3 ≤ 6 by omega)).pre hs hg3 (mN_fr a4 (by decide)) (mN_fr a4 (by decide)) (mN_fr a4 (by decide)) (cd_frI a3 (by decide) (by decide) _) (rL_fr a3 (by simp)) (by rw [hL3]; simp)
      · rintro v7 c7 b7 pl hc7 hbw ⟨rfl, fc7⟩
        dsimp only
        have hcs7 := CS.adv hE6.2.1.1 fc7
        refine Or.inl ⟨0, c7, b7, rfl, hc7.here, hbw, hcs7.1, ?_⟩
        have e1 := hE6.2.1.nv.2.2.2.2.2.1
        have e2 := hE6.2.2.1.n35
        have e3 : mN m3 35 = mN m 35 := mN_fr a4 (by decide)
        rw [hcs7.2]; omega
    · rintro v6 c6 b6 pl hc6 hbw ⟨hcs6, hle⟩
      dsimp only
      exact op_seq (Pn1 := fun _ _ => False) (pass_bw hC hc6.here hbw (by decide)) (fun _ _ _ _ _ y => y.elim)
    · intro x6 z k2 pl h1 h2
      dsimp only
      rw [nf_sign h2, bs_some]
      exact ⟨_, _, rfl, h1, h2⟩
  · obtain ⟨x2, q1, g1, g2, g3⟩ := hnx m0 m3 1 (wF w3) hm3 hnf
    refine ⟨x2, q1, ?_, g2, Or.inr (Or.inl ⟨wF w3, ?_, g3⟩)⟩
    · rw [show rm 0 0 0 0 m3 = _ from g1, bs_some]
      dsimp only
      rw [nf_sign g3, bs_some]
    · exact op_seq (Pn1 := fun _ _ => False) (hbx c0 c3 b (wF w3) hc3 hbw) (fun _ _ _ _ _ y => y.elim)
