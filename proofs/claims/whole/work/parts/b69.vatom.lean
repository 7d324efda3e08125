/-! self and variables as atoms -/
theorem cap62L {n : Nat} {l1 l2 x : Int32} : ∀ (j : Nat) (m : md_S) (a b : Int32), f_X12_captures_L20 n l1 l2 j (mSI m 62 x) a b = (f_X12_captures_L20 n l1 l2 j m a b).map (fun p => (mSI p.1 62 x, p.2))
  | 0, _, _, _ => rfl
  | j + 1, m, a, b => by
      rw [u_X12_captures_L20, u_X12_captures_L20]
      have e : ∀ k i, mldA (mSI m 62 x) k i = mldA m k i := fun _ _ => rfl
      simp only [e]
      cases mldA m 44 l2 with
      | none => rfl
      | some v3 =>
        simp only [bs_some]
        by_cases h1 : v3 ≤ b
        · rw [if_pos h1, if_pos h1]; rfl
        · rw [if_neg h1, if_neg h1]
          unfold f_X12_captures_J51 f_X12_captures_J56
          by_cases h2 : a = 0
          · rw [if_pos h2, if_pos h2]
            cases mldA m 45 (16 * l2 + b) with
            | none => rfl
            | some v4 =>
              simp only [bs_some]
              by_cases h3 : v4 = l1
              · rw [if_pos h3, if_pos h3]; exact cap62L j m _ _
              · rw [if_neg h3, if_neg h3]; exact cap62L j m _ _
          · rw [if_neg h2, if_neg h2]; exact cap62L j m _ _
theorem cap62M {n : Nat} {l1 x : Int32} : ∀ (j : Nat) (m : md_S) (a : Int32), f_X12_captures_L5 n l1 j (mSI m 62 x) a = (f_X12_captures_L5 n l1 j m a).map (fun p => (mSI p.1 62 x, p.2))
  | 0, _, _ => rfl
  | j + 1, m, a => by
      rw [u_X12_captures_L5, u_X12_captures_L5]
      have e : ∀ (m : md_S) k i, mldA (mSI m 62 x) k i = mldA m k i := fun _ _ _ => rfl
      have st : ∀ (r : md_S) (f : Nat) (i y : Int32), mstA (mSI r 62 x) f i y = (mstA r f i y).map (fun q => mSI q 62 x) := by
        intro r f i y
        unfold mstA
        split <;> rfl
      have jj : ∀ r : md_S, f_X12_captures_J94 n l1 (f_X12_captures_L5 n l1 j) (mSI r 62 x) a = (f_X12_captures_J94 n l1 (f_X12_captures_L5 n l1 j) r a).map (fun p => (mSI p.1 62 x, p.2)) := by
        intro r
        unfold f_X12_captures_J94
        rw [e]
        cases mldA r 40 a with
        | none => rfl
        | some y => simp only [bs_some]; exact cap62M j r y
      rw [e]
      cases mldA m 51 l1 with
      | none => rfl
      | some v2 =>
        simp only [bs_some]
        by_cases h1 : a = v2
        · rw [if_pos h1, if_pos h1]; rfl
        · rw [if_neg h1, if_neg h1, cap62L]
          cases f_X12_captures_L20 n l1 a n m 0 0 with
          | none => rfl
          | some q5 =>
            obtain ⟨r, z, y⟩ := q5
            simp only [Option.map_some, bs_some]
            by_cases h2 : z = 0
            · rw [if_pos h2, if_pos h2, e]
              cases mldA r 44 a with
              | none => rfl
              | some v6 =>
                simp only [bs_some]
                rw [st]
                cases mstA r 45 (16 * a + v6) l1 with
                | none => rfl
                | some r2 =>
                  simp only [Option.map_some, bs_some]
                  rw [e]
                  cases mldA r2 44 a with
                  | none => rfl
                  | some v8 =>
                    simp only [bs_some]
                    rw [st]
                    cases mstA r2 44 a (v8 + 1) with
                    | none => rfl
                    | some r3 =>
                      simp only [Option.map_some, bs_some]
                      exact jj r3
            · rw [if_neg h2, if_neg h2]
              exact jj r
theorem cap62 {n : Nat} {m : md_S} {x v : Int32} : f_X12_captures n (mSI m 62 x) v = (f_X12_captures n m v).map (fun p => (p.1, mSI p.2 62 x)) := by
  unfold f_X12_captures
  rw [mI_SIo (by decide), cap62M]
  cases f_X12_captures_L5 n v n m (mI m 64) <;> rfl
theorem cap62s {n : Nat} {m m' : md_S} {y v : Int32} (h : f_X12_captures n m v = some (y, m')) : mI m' 62 = mI m 62 := by
  have e : mSI m 62 (mI m 62) = m := by
    show (_, _) = m
    refine Prod.ext ?_ rfl
    funext j
    show (if j = 62 then m.1 62 else m.1 j) = m.1 j
    by_cases hj : j = 62
    · rw [if_pos hj, hj]
    · rw [if_neg hj]
  have h2 := cap62 (n := n) (m := m) (x := mI m 62) (v := v)
  rw [e, h] at h2
  have h3 := congrArg (fun q => mI q.2 62) (Option.some.inj h2)
  exact h3.trans mI_SIe
/-- variable v as an atom; behind part in the class, before it in the model -/
theorem vget_ok {n : Nat} {C : Nat × Nat} {B : Nat → Int32} {N : Nat} {c0 c : cd_S} {m0 m : md_S} {b : cd_B} {w : WD} {L : List WD} {O : List Nat} {mc k kl v : Nat} (hC : BC C) (hn : 5000 ≤ n) (hc : CI C c0 b c b) (hm : MI m0 m) (h : LX B N c m w L) (hk : wK w ≠ 0) (hs : ST c m O mc k (kl + 1)) (hkl : kl ≤ 30) (hp : mN m 62 < 400) (hv : v < mN m 50) (ho : AN m (aN m 51 v) (mN m 64)) (hsc : (∃ r, AN m r (mN m 64) ∧ mA m 36 r = 0 ∧ mA m 55 r = nI v) ∨ ∃ i, i < mN m 56 ∧ mA m 57 i = nI v) :
    OUT C c0 m0 b (Option.bind (f_X4_getVariable n (cSI c 138 0 (nI (mN m 62 + 1))) b (kv m v)) fun p20 => cd_ck sF (p20.2.2) <| f_X4_readPlainAtom_J129 n p20.2.1 (p20.2.2)) (Option.bind (f_X12_captures n m (nI v)) fun p5 => Option.bind (f_X12_simple n p5.2 (2 : Int32) (nI v) (0 : Int32)) fun p6 => some (p6.1, p6.2)) (EOk 3 B N c m O mc k kl L) (fun c' _ => CS c' k ∧ cN c 66 ≤ cN c' 66) := by
  obtain ⟨q62, q35, q50, q65, -, -, y62, -⟩ := hs.nv
  obtain ⟨hs2, hnd⟩ := hs.part hp
  have fc2 : cd_fr [138] [] c (cSI c 138 0 (nI (mN m 62 + 1))) := cd_fr_SI (cd_fr_refl _ _ _) (by decide) (by decide) _ _
  have fm2 : md_fr [62] m (mSI m 62 (nI (mN m 62 + 1))) := md_fr_SI (md_fr_refl _ _) (by decide) _
  have hg2 : GR c (cSI c 138 0 (nI (mN m 62 + 1))) m (mSI m 62 (nI (mN m 62 + 1))) := GR.part q35 rfl hp
  have hkv2 : kv (mSI m 62 (nI (mN m 62 + 1))) v = kv m v := rfl
  have hX2 : LX B N (cSI c 138 0 (nI (mN m 62 + 1))) (mSI m 62 (nI (mN m 62 + 1))) w L := h.fr fc2 fm2 (by decide) (by decide) (by decide)
  have hn2 : ∀ a u, AN (mSI m 62 (nI (mN m 62 + 1))) a u ↔ AN m a u := AN_ME (ME.of fm2 (by decide))
  have n64 := hg2.n64
  obtain ⟨c3, m3, e1, e2, e3, e4, fm3, ⟨pc3, oc3⟩, fr3⟩ := cap_ok (n := n) (v := v) hn hs2 hX2.pc (by rw [mN_fr fm2 (by decide)]; exact hv) (by rw [n64, hn2]; exact ho) (by
    rcases hsc with ⟨r, r1, r2, r3⟩ | ⟨x, j1, j2⟩
    · exact Or.inl ⟨r, by rw [n64, hn2]; exact r1, r2, r3⟩
    · exact Or.inr ⟨x, by rw [mN_fr fm2 (by decide)]; exact j1, j2⟩)
  rw [hkv2, n64] at fr3
  rw [cap62] at e1
  obtain ⟨⟨y7, m4⟩, hp7, hq7⟩ := Option.map_eq_some_iff.mp e1
  obtain ⟨-, hm43⟩ := Prod.mk.inj hq7
  dsimp only at hm43
  have h462 : mI m4 62 = nI (mN m 62) := (cap62s hp7).trans y62
  have h36 : mI m3 6 = 0 := by rw [md_frI fm3 (by decide)]; exact hX2.fine
  have h46 : mI m4 6 = 0 := by rw [← hm43, mI_SIo (by decide)] at h36; exact h36
  have hcp : f_X12_countsPart n m4 = some (1, m3) := by
    unfold f_X12_countsPart f_X12_countsPart_J22
    rw [m_fine, bs_some, if_pos h46]
    dsimp only
    rw [if_neg ne10, h462, if_neg (show ¬ nI (mN m 62) = 400 from fun y => absurd ((nI_eq (b := 400) (by omega) (by decide)).mp y) (by omega)), bs_some, m_fine, bs_some, nI_1, hm43, if_pos h36]
    rfl
  rw [hp7, bs_some]
  dsimp only
  unfold f_X12_simple
  rw [hcp, bs_some]
  dsimp only
  rw [if_neg ne10]
  have hm3 : MI m0 m3 := (hm.fr fm2 (by decide)).fr fm3 (by decide)
  have hc3 : CI C c0 b c3 b := (hc.fr fc2 (by decide)).fr e4 (by decide)
  have hX3 : LX B N c3 m3 w L := hX2.frp e4 fm3 (by decide) (by decide) (by decide) pc3
  have hg3 : GR c c3 m m3 := GR.tr hs hg2 e3
  have n623 : mN m3 62 = mN m 62 + 1 := by rw [mN_fr fm3 (by decide)]; exact mN_of mI_SIe (by omega)
  have n653 : mN m3 65 = mN m 65 := by rw [mN_fr fm3 (by decide), mN_fr fm2 (by decide)]
  obtain ⟨i, lc0, hi, n1, hbn⟩ := BN.new (n := n) (t := 2) (x := nI v) (y := 0) hs e2 hg3 (by omega) (by omega) (by rw [cd_frI e4 (by decide) (by decide), cd_frI fc2 (by decide) (by decide)]) (by rw [rL_fr e4 (by simp), rL_fr fc2 (by simp)]) n653
  have f3 := ndm_fr m3 i 2 (nI v) 0
  have hX4 : LX B N c3 (ndm m3 i 2 (nI v) 0) w L := hX3.fr (cd_fr_refl _ [] []) f3 (by decide) (by decide) (by decide)
  obtain ⟨b5, d1, d2, d3, d4, d5, d6⟩ := BN.emit (n := n) (k := k + 5) (e1 := 2) (e2 := kv m v) (e3 := 0) hC hc3 hbn hX4
  have hget : f_X4_getVariable n (cSI c 138 0 (nI (mN m 62 + 1))) b (kv m v) = some (0, em c3 (mN m 64) 2 (kv m v) 0, b5) := by
    rw [fr3, d2, bs_some]
    refine c_ck ?_ d3.1 d3.2
    refine c_ck ?_ d3.1 d3.2
    exact c_ck rfl (Nat.le_refl _) (Nat.le_refl _)
  refine out_em hget d3 ?_
  dsimp only
  unfold f_X4_readPlainAtom_J129
  rw [n1, bs_some]
  dsimp only
  obtain ⟨c6, m6, a1, a2, a3, a4, ⟨w', L', hL', a5⟩, a6⟩ := adv_ok (n := n) hn d6 hk
  rw [a1, bs_some, a2, bs_some, bs_some]
  have hm6 : MI m0 m6 := (hm3.fr f3 (by decide)).fr a4 (by decide)
  have hc6 : CI C c0 b5 c6 b5 := d4.fr a3 (by decide)
  refine ⟨nI i, m6, rfl, hm6, ?_⟩
  rcases a5 with hX6 | ⟨hbw, hnf⟩
  · left
    have hbn6 := d5.adv hs a3 a4 (a6 hX6.fine)
    refine ⟨0, c6, b5, rfl, hc6, ?_⟩
    have h66 := hbn6.2.2.2.1
    have h68 := hbn6.2.2.2.2.1
    have h50 : v < mN m6 50 := by rw [mN_fr a4 (by decide), mN_fr f3 (by decide), mN_fr fm3 (by decide), mN_fr fm2 (by decide)]; exact hv
    have e67 : aN m6 67 i = mN m6 64 := by rw [hbn6.2.1.n64]; exact aN_of hbn6.2.2.1.2.1 (by have := hs.q64.2; omega)
    have oc6 : OC m6 (mN m6 64) v := by
      have z := (oc3.to (CG.fr f3 (by decide)) (by rw [n64, mN_fr fm3 (by decide), mN_fr fm2 (by decide)]; exact hs.q64.1) (by rw [mN_fr fm3 (by decide), mN_fr fm2 (by decide)]; exact hv)).to (CG.fr a4 (by decide)) (by rw [n64, mN_fr f3 (by decide), mN_fr fm3 (by decide), mN_fr fm2 (by decide)]; exact hs.q64.1) (by rw [mN_fr f3 (by decide), mN_fr fm3 (by decide), mN_fr fm2 (by decide)]; exact hv)
      rw [hbn6.2.1.n64, ← n64]; exact z
    refine (hbn6.debt (Nat.le_refl _) (by omega) (show k ≤ k + 5 by omega)).fin hX6 (by rw [hL']; simp) rfl ?_ ?_ ?_
    · unfold um; rw [h66, if_neg (by decide)]
    · exact Or.inr (Or.inr (Or.inl ⟨h66, rfl, ⟨v, h68, h50, by rw [e67]; exact hbn6.1.q64.1, by rw [e67]; exact oc6⟩, hbn6.2.2.2.2.2.1⟩))
    · unfold cmb
      have e9 : kv m6 v = kv m v := by rw [kv_ME (ME.of a4 (by decide)), kv_ME (ME.of f3 (by decide)), kv_ME (ME.of fm3 (by decide))]; rfl
      rw [h66, if_neg (by decide), if_neg (by decide), if_neg (by decide), if_neg (by decide), if_pos rfl, aN_of h68 (by omega), e9]
      rfl
  · right; left
    have hcs := CS.adv d5.1.1 a3
    refine ⟨wF w', Or.inl ⟨0, c6, b5, rfl, hc6, hbw, hcs.1.less (by omega), ?_⟩, hnf⟩
    have h1 := d5.1.nv.2.2.2.2.2.1
    have h2 := d5.2.1.n35
    have h3 := hs.nv.2.2.2.2.2.1
    rw [hcs.2]; omega
