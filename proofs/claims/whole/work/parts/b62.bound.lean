/-! the expression in which a variable is one -/
theorem gets56L {n : Nat} {l2 v : Int32} : ∀ (j : Nat) (m : md_S) (l3 : Int32), f_X12_gets_L35 n l2 j (mSI m 56 v) l3 = (f_X12_gets_L35 n l2 j m l3).map (fun p => (mSI p.1 56 v, p.2))
  | 0, _, _ => rfl
  | j + 1, m, l3 => by
      rw [u_X12_gets_L35, u_X12_gets_L35]
      have e : mldA (mSI m 56 v) 71 l3 = mldA m 71 l3 := rfl
      rw [e]
      cases mldA m 71 l3 with
      | none => rfl
      | some x =>
        simp only [bs_some]
        by_cases hx : x = -1
        · rw [if_pos hx, if_pos hx]; rfl
        · rw [if_neg hx, if_neg hx]
          exact gets56L j m x
theorem gets56 {n : Nat} {m : md_S} {v a b : Int32} : f_X12_gets n (mSI m 56 v) a b = (f_X12_gets n m a b).map (fun p => (p.1, mSI p.2 56 v)) := by
  unfold f_X12_gets
  rw [m_fine, m_fine, bs_some, bs_some, mI_SIo (by decide)]
  dsimp only
  by_cases h6 : mI m 6 = 0
  · rw [if_pos h6, if_neg ne10, if_neg ne10]
    have e : mstA (mSI m 56 v) 72 b a = (mstA m 72 b a).map (fun q => mSI q 56 v) := by
      unfold mstA
      split <;> rfl
    rw [e]
    cases mstA m 72 b a with
    | none => rfl
    | some q =>
      rw [bs_some]
      show (Option.bind (mldA (mSI q 56 v) 70 a) _) = _
      have e2 : mldA (mSI q 56 v) 70 a = mldA q 70 a := rfl
      rw [e2]
      cases mldA q 70 a with
      | none => rfl
      | some x =>
        rw [bs_some, bs_some]
        have st : ∀ (r : md_S) (f : Nat) (i y : Int32), mstA (mSI r 56 v) f i y = (mstA r f i y).map (fun q => mSI q 56 v) := by
          intro r f i y
          unfold mstA
          split <;> rfl
        by_cases hx : x = -1
        · rw [if_pos hx, if_pos hx, st]
          cases mstA q 70 a b <;> rfl
        · rw [if_neg hx, if_neg hx, gets56L]
          cases f_X12_gets_L35 n b n q x with
          | none => rfl
          | some z =>
            show Option.bind (mstA (mSI z.1 56 v) 71 z.2 b) _ = Option.map _ (Option.bind (mstA z.1 71 z.2 b) _)
            rw [st]
            cases mstA z.1 71 z.2 b <;> rfl
  · rw [if_neg h6, if_pos rfl, if_pos rfl]; rfl
theorem md_gets56 {n : Nat} {m : md_S} {a b : Int32} {p : Int32 × md_S} (h : f_X12_gets n m a b = some p) : mI p.2 56 = mI m 56 := by
  have e : mSI m 56 (mI m 56) = m := by
    show (_, _) = m
    refine Prod.ext ?_ rfl
    funext j
    show (if j = 56 then m.1 56 else m.1 j) = m.1 j
    by_cases hj : j = 56
    · rw [if_pos hj, hj]
    · rw [if_neg hj]
  have h2 := gets56 (n := n) (m := m) (v := mI m 56) (a := a) (b := b)
  rw [e, h] at h2
  have h3 := congrArg (fun q => mI q.2 56) (Option.some.inj h2)
  exact h3.trans mI_SIe
/-- with the name and the key of variable v, and node i that gets the expression -/
def BND (C : Nat × Nat) (B : Nat → Int32) (N : Nat) (fc : Int64 → Int32 → cd_S → cd_B → Option Th) (fm : Int32 → Int32 → md_S → Option (Int32 × md_S)) (dm kd : Nat) : Prop :=
  ∀ (c0 : cd_S) (m0 : md_S) (c c1 : cd_S) (m m1 : md_S) (b : cd_B) (w : WD) (L : List WD) (O : List Nat) (mc k kl i v k0 kl0 : Nat) (t x y key : Int32) (nm : Int64) (lc0 l0 l1 : Nat) (ch : List Nat) (ess : List (List EN)) (ns : List Nat) (pre : List EN), CI C c0 b c1 b → MI m0 m1 → LX B N c1 m1 w L → ST c m O mc k0 kl0 → BN c c1 m m1 O mc (k + 1) (kl + 1) i t x y lc0 l0 l1 ch ess ns pre → v < mN m1 50 → mA m1 51 v = nI (mN m 64) → kv m1 v = key → NR nm (mL m1 52 v) → mN m1 56 < 12 → mI m1 63 = nI dm → kl ≤ kd →
    OUT C c0 m0 b (fc nm key c1 b) (fm (nI v) (nI i) m1) (fun _ c' _ _ m' => ∃ r es l2 n2, BN c c' m m' O mc k kl i t x y lc0 l0 l2 (ch ++ [r]) (ess ++ [es]) (ns ++ n2) (pre ++ [(3, key, 0)] ++ es) ∧ KP m1 m' ∧ ∃ w' L', LX B N c' m' w' L' ∧ L'.length < L.length) (fun c' _ => CS c' k ∧ cN c1 66 ≤ cN c' 66)
theorem nf_around {n : Nat} {rm : md_R} (v i : Int32) : NFX (fun m => f_X12_around n rm m v i) := by
  intro m0 m k pl hm h
  dsimp only
  unfold f_X12_around
  rw [nf_isFine h, bs_some]
  exact ⟨0, m, rfl, hm, h⟩
theorem bound_ok {n : Nat} {C : Nat × Nat} {B : Nat → Int32} {N : Nat} {rc : cd_R} {rm : md_R} {a : Int32} {dm kd : Nat} (hC : BC C) (hn : 5000 ≤ n) (hx : EX C B N (fun c b => rc 0 0 (a + 1) 0 c b) (fun m => rm 0 0 0 0 m) dm kd 6) : BND C B N (fun nm key c b => f_X4_readBound n rc c b nm key a) (fun v i m => f_X12_around n rm m v i) dm kd := by
  intro c0 m0 c c1 m m1 b w L O mc k kl i v k0 kl0 t x y key nm lc0 l0 l1 ch ess ns pre hc hm h hs hbn hv hown hkv hnr h56 h63 hkl
  dsimp only
  unfold f_X4_readBound f_X12_around
  refine out_ck ?_
  obtain ⟨b7, d1, d2, d3, d4, d5, d6⟩ := BN.emit (n := n) (k := k) (e1 := 3) (e2 := key) (e3 := 0) hC hc hbn h
  rw [d1, bs_some]
  refine out_em d2 d3 ?_
  dsimp only
  obtain ⟨c2, hc2⟩ : ∃ q, q = em c1 (mN m 64) 3 key 0 := ⟨_, rfl⟩
  rw [← hc2] at d4 d5 d6 ⊢
  have n64 := d5.2.1.n64
  have hnv := d5.1.nv
  have s56 : mI m1 56 = nI (mN m1 56) := hnv.2.2.2.2.2.2.2.2.2.2.2.2.1
  have s134 : cI c2 134 0 = nI (mN m1 56) := hnv.2.2.2.2.2.2.2.2.2.2.2.2.2
  rw [c_declare s134 h56, bs_some, m_fine, bs_some, if_pos h.fine]
  dsimp only
  rw [if_neg ne10, s56, m_st57 (by omega), bs_some, mI_SA, s56, nI_1, bs_some]
  have hbi : BI c2 _ m1 _ (mN m1 56) v nm key := ⟨rfl, rfl, s134, s56, h56⟩
  obtain ⟨c3, hc3⟩ : ∃ q, q = cSI (cSA (cSL c2 132 0 (mN m1 56) nm) 133 0 (mN m1 56) key) 134 0 (nI (mN m1 56 + 1)) := ⟨_, rfl⟩
  obtain ⟨m3, hm3⟩ : ∃ q, q = mSI (mSA m1 57 (mN m1 56) (nI v)) 56 (nI (mN m1 56 + 1)) := ⟨_, rfl⟩
  rw [← hc3, ← hm3] at hbi ⊢
  obtain ⟨fc3, fm3, -⟩ := hbi.fr
  have hs3 := d5.1.bind hbi hv (by rw [n64]; exact hown) hkv hnr
  refine out_seq (hx c0 m0 c3 m3 b7 w L O mc k kl (d4.fr fc3 (by decide)) (hm.fr fm3 (by decide)) (d6.fr fc3 fm3 (by decide) (by decide) (by decide)) hs3 (by rw [md_frI fm3 (by decide)]; exact h63) hkl) ?_ ?_ ?_
  · intro v6 c6 b6 x6 m6 hc6 hm6 hE6
    dsimp only
    have hE := hE6.unbind hbi hv (by rw [n64]; exact hown)
    obtain ⟨r2, es2, l2, n2, m7, g1, hbn7, g3, hkp, w6, L6, hX6, hl6⟩ := d5.read hn hs hE (by omega) (fun _ => by omega)
    rw [gets56] at g1
    obtain ⟨⟨y7, m8⟩, hp7, hq7⟩ := Option.map_eq_some_iff.mp g1
    obtain ⟨-, hm87⟩ := Prod.mk.inj hq7
    have f7 : mI m8 56 = mI m6 56 := md_gets56 hp7
    rw [hp7, bs_some]
    dsimp only at hm87 ⊢
    rw [bs_some, bs_some, f7, hm87]
    have fm6 : md_fr [56] m6 (mSI m6 56 (mI m6 56 - 1)) := md_fr_SI (md_fr_refl _ _) (by decide) _
    refine ⟨0, _, rfl, (hm6.fr fm6 (by decide)).fr g3 (by decide), Or.inl ⟨0, _, b6, rfl, hc6.here.fr (F := [134]) (cd_fr_SI (cd_fr_refl _ _ _) (by decide) (by decide) _ _) (by decide), r2, es2, l2, n2, hbn7, hkp, w6, L6, hX6, hl6⟩⟩
  · rintro v6 c6 b6 pl hc6 hbw ⟨hcs, hle⟩
    dsimp only
    rw [bs_some]
    have fc6 : cd_fr [134] [] c6 (cSI c6 134 0 (cI c6 134 0 - 1)) := cd_fr_SI (cd_fr_refl _ _ _) (by decide) (by decide) _ _
    refine Or.inl ⟨0, _, b6, rfl, hc6.here.fr fc6 (by decide), ⟨by rw [cI_SIo (by decide)]; exact hbw.1, by rw [cI_SIo (by decide)]; exact hbw.2⟩, ?_, ?_⟩
    · exact hcs.to (CE.of fc6 (by decide)) (fun i _ => cd_frz fc6 (by simp))
    · have e1 : cN (cSI c6 134 0 (cI c6 134 0 - 1)) 66 = cN c6 66 := by rw [cN, cN, cI_SIo (by decide)]
      have e2 : cN c3 66 = cN c1 66 := by rw [cN, cN, cd_frI fc3 (by decide) (by decide), hc2, em_I (by decide)]
      rw [e1, ← e2]; exact hle
  · intro x6 m6 k2 pl h1 h2
    dsimp only
    rw [nf_gets h2, bs_some]
    dsimp only
    rw [bs_some]
    have fm6 : md_fr [56] m6 (mSI m6 56 (mI m6 56 - 1)) := md_fr_SI (md_fr_refl _ _) (by decide) _
    exact ⟨0, _, rfl, h1.fr fm6 (by decide), h2.fr fm6 (by decide) (by decide)⟩
/-- a bound expression at no word -/
def BWB (C : Nat × Nat) (fc : Int64 → Int32 → cd_S → cd_B → Option Th) : Prop := ∀ (nm : Int64) (key : Int32) (c0 c : cd_S) (b : cd_B) (pl k s : Nat), CI C c0 b c b → BW c pl → CS c (k + 1) → cI c 134 0 = nI s → s ≤ 12 → OP C c0 b (fc nm key c b) pl (fun _ _ => False)
theorem bw_bound {n : Nat} {C : Nat × Nat} {rc : cd_R} {a : Int32} (hC : BC C) (hbx : BWX C (fun c b => rc 0 0 (a + 1) 0 c b)) : BWB C (fun nm key c b => f_X4_readBound n rc c b nm key a) := by
  intro nm key c0 c b pl k s hc hbw hcs h134 hs
  dsimp only
  unfold f_X4_readBound
  refine op_ck ?_
  obtain ⟨u, b7, u1, u2, u3, u4, u5, u6, u7⟩ := CS.em (n := n) (k := k) (x := 3) (y := key) (z := 0) hC hcs hc
  rw [u2, bs_some]
  refine op_em u3 u4 ?_
  dsimp only
  have e134 : cI (em c u 3 key 0) 134 0 = nI s := by rw [em_I (by decide)]; exact h134
  by_cases h12 : s = 12
  · have hd : f_X4_declare n (em c u 3 key 0) nm key = some (0, em c u 3 key 0) := by
      unfold f_X4_declare
      rw [e134, h12, if_pos (by decide)]
    rw [hd, bs_some]
    exact op_seq (Pn1 := fun _ _ => False) (hbx c0 _ b7 pl u5 hbw.em) (fun _ _ _ _ _ y => y.elim)
  · rw [c_declare e134 (by omega), bs_some]
    have fd : cd_fr [132, 133, 134] [] (em c u 3 key 0) (cSI (cSA (cSL (em c u 3 key 0) 132 0 s nm) 133 0 s key) 134 0 (nI (s + 1))) := cd_fr_SI (cd_fr_SA (cd_fr_SL (cd_fr_refl _ _ _) (by decide) _ _ _) (by decide) _ _ _) (by decide) (by decide) _ _
    exact op_seq (Pn1 := fun _ _ => False) (hbx c0 _ b7 pl (u5.fr fd (by decide)) (bw_fr hbw.em fd (by decide) (by decide))) (fun _ _ _ _ _ y => y.elim)
